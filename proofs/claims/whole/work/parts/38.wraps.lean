set_option maxRecDepth 20000 in
theorem m_316 : Cond.code y_C_column b_C_column 2 (some .int) ∈ wA := in_wA (List.mem_of_getElem? (i := 316) rfl) rfl
set_option maxRecDepth 20000 in
theorem m_313 : Cond.methodLink R_W 7 y_C_column ∈ wA := in_wA (List.mem_of_getElem? (i := 313) rfl) rfl
set_option maxRecDepth 20000 in
theorem m_314 : Cond.instanceMethod y_C_column ∈ wA := in_wA (List.mem_of_getElem? (i := 314) rfl) rfl
set_option maxRecDepth 20000 in
theorem m_315 : Cond.selects R_C y_C_column y_C_column ∈ wA := in_wA (List.mem_of_getElem? (i := 315) rfl) rfl
set_option maxRecDepth 20000 in
theorem m_311 : Cond.classLink R_W 13 "java/lang/IndexOutOfBoundsException" ∈ wA := in_wA (List.mem_of_getElem? (i := 311) rfl) rfl
set_option maxRecDepth 20000 in
theorem m_312 : Cond.classLink R_W 15 "java/lang/UnsupportedOperationException" ∈ wA := in_wA (List.mem_of_getElem? (i := 312) rfl) rfl
set_option maxRecDepth 20000 in
theorem m_416 : Cond.code y_C_address b_C_address 3 (some .boolean) ∈ wA := in_wA (List.mem_of_getElem? (i := 416) rfl) rfl
set_option maxRecDepth 20000 in
theorem m_413 : Cond.methodLink R_W 17 y_C_address ∈ wA := in_wA (List.mem_of_getElem? (i := 413) rfl) rfl
set_option maxRecDepth 20000 in
theorem m_414 : Cond.instanceMethod y_C_address ∈ wA := in_wA (List.mem_of_getElem? (i := 414) rfl) rfl
set_option maxRecDepth 20000 in
theorem m_415 : Cond.selects R_C y_C_address y_C_address ∈ wA := in_wA (List.mem_of_getElem? (i := 415) rfl) rfl
set_option maxRecDepth 20000 in
theorem m_429 : Cond.code y_C_read b_C_read 5 (some .int) ∈ wA := in_wA (List.mem_of_getElem? (i := 429) rfl) rfl
set_option maxRecDepth 20000 in
theorem m_426 : Cond.methodLink R_W 21 y_C_read ∈ wA := in_wA (List.mem_of_getElem? (i := 426) rfl) rfl
set_option maxRecDepth 20000 in
theorem m_427 : Cond.instanceMethod y_C_read ∈ wA := in_wA (List.mem_of_getElem? (i := 427) rfl) rfl
set_option maxRecDepth 20000 in
theorem m_428 : Cond.selects R_C y_C_read y_C_read ∈ wA := in_wA (List.mem_of_getElem? (i := 428) rfl) rfl
set_option maxRecDepth 20000 in
theorem m_425 : Cond.classLink R_W 25 "java/lang/IllegalArgumentException" ∈ wA := in_wA (List.mem_of_getElem? (i := 425) rfl) rfl
set_option maxRecDepth 20000 in
theorem m_485 : Cond.code y_C_flips b_C_flips 3 (some .int) ∈ wA := in_wA (List.mem_of_getElem? (i := 485) rfl) rfl
set_option maxRecDepth 20000 in
theorem m_482 : Cond.methodLink R_W 27 y_C_flips ∈ wA := in_wA (List.mem_of_getElem? (i := 482) rfl) rfl
set_option maxRecDepth 20000 in
theorem m_483 : Cond.instanceMethod y_C_flips ∈ wA := in_wA (List.mem_of_getElem? (i := 483) rfl) rfl
set_option maxRecDepth 20000 in
theorem m_484 : Cond.selects R_C y_C_flips y_C_flips ∈ wA := in_wA (List.mem_of_getElem? (i := 484) rfl) rfl
set_option maxRecDepth 20000 in
theorem m_520 : Cond.code y_C_table b_C_table 2 (some .int) ∈ wA := in_wA (List.mem_of_getElem? (i := 520) rfl) rfl
set_option maxRecDepth 20000 in
theorem m_517 : Cond.methodLink R_W 31 y_C_table ∈ wA := in_wA (List.mem_of_getElem? (i := 517) rfl) rfl
set_option maxRecDepth 20000 in
theorem m_518 : Cond.instanceMethod y_C_table ∈ wA := in_wA (List.mem_of_getElem? (i := 518) rfl) rfl
set_option maxRecDepth 20000 in
theorem m_519 : Cond.selects R_C y_C_table y_C_table ∈ wA := in_wA (List.mem_of_getElem? (i := 519) rfl) rfl
set_option maxRecDepth 20000 in
theorem m_536 : Cond.code y_C_bursts b_C_bursts 2 (some .boolean) ∈ wA := in_wA (List.mem_of_getElem? (i := 536) rfl) rfl
set_option maxRecDepth 20000 in
theorem m_533 : Cond.methodLink R_W 34 y_C_bursts ∈ wA := in_wA (List.mem_of_getElem? (i := 533) rfl) rfl
set_option maxRecDepth 20000 in
theorem m_534 : Cond.instanceMethod y_C_bursts ∈ wA := in_wA (List.mem_of_getElem? (i := 534) rfl) rfl
set_option maxRecDepth 20000 in
theorem m_535 : Cond.selects R_C y_C_bursts y_C_bursts ∈ wA := in_wA (List.mem_of_getElem? (i := 535) rfl) rfl
set_option maxRecDepth 20000 in
theorem m_556 : Cond.code y_C_spare b_C_spare 4 (some .int) ∈ wA := in_wA (List.mem_of_getElem? (i := 556) rfl) rfl
set_option maxRecDepth 20000 in
theorem m_553 : Cond.methodLink R_W 37 y_C_spare ∈ wA := in_wA (List.mem_of_getElem? (i := 553) rfl) rfl
set_option maxRecDepth 20000 in
theorem m_554 : Cond.instanceMethod y_C_spare ∈ wA := in_wA (List.mem_of_getElem? (i := 554) rfl) rfl
set_option maxRecDepth 20000 in
theorem m_555 : Cond.selects R_C y_C_spare y_C_spare ∈ wA := in_wA (List.mem_of_getElem? (i := 555) rfl) rfl
set_option maxRecDepth 20000 in
theorem m_573 : Cond.code y_C_spareOf b_C_spareOf 2 (some .int) ∈ wA := in_wA (List.mem_of_getElem? (i := 573) rfl) rfl
set_option maxRecDepth 20000 in
theorem m_570 : Cond.methodLink R_W 40 y_C_spareOf ∈ wA := in_wA (List.mem_of_getElem? (i := 570) rfl) rfl
set_option maxRecDepth 20000 in
theorem m_571 : Cond.instanceMethod y_C_spareOf ∈ wA := in_wA (List.mem_of_getElem? (i := 571) rfl) rfl
set_option maxRecDepth 20000 in
theorem m_572 : Cond.selects R_C y_C_spareOf y_C_spareOf ∈ wA := in_wA (List.mem_of_getElem? (i := 572) rfl) rfl
set_option maxRecDepth 20000 in
theorem m_580 : Cond.code y_C_share b_C_share 5 (some .int) ∈ wA := in_wA (List.mem_of_getElem? (i := 580) rfl) rfl
set_option maxRecDepth 20000 in
theorem m_577 : Cond.methodLink R_W 43 y_C_share ∈ wA := in_wA (List.mem_of_getElem? (i := 577) rfl) rfl
set_option maxRecDepth 20000 in
theorem m_578 : Cond.instanceMethod y_C_share ∈ wA := in_wA (List.mem_of_getElem? (i := 578) rfl) rfl
set_option maxRecDepth 20000 in
theorem m_579 : Cond.selects R_C y_C_share y_C_share ∈ wA := in_wA (List.mem_of_getElem? (i := 579) rfl) rfl
abbrev w_W_cell : List Cond := .code y_W_cell b_W_cell 2 (some .int) :: wA
abbrev rm_W_cell : Room := { frames := 0, cells := 0, slots := 0, locals := 0 }
theorem d_W_cell_0 : decode b_W_cell 0 = .ok (.iload_n 1, 1) := by decide +kernel
theorem d_W_cell_1 : decode b_W_cell 1 = .ok (.aload_n 0, 1) := by decide +kernel
theorem d_W_cell_2 : decode b_W_cell 2 = .ok (.arraylength, 1) := by decide +kernel
theorem d_W_cell_3 : decode b_W_cell 3 = .ok (.if_icmp .ge 9, 3) := by decide +kernel
theorem d_W_cell_6 : decode b_W_cell 6 = .ok (.aload_n 0, 1) := by decide +kernel
theorem d_W_cell_7 : decode b_W_cell 7 = .ok (.iload_n 1, 1) := by decide +kernel
theorem d_W_cell_8 : decode b_W_cell 8 = .ok (.iaload, 1) := by decide +kernel
theorem d_W_cell_9 : decode b_W_cell 9 = .ok (.goto 4, 3) := by decide +kernel
theorem d_W_cell_12 : decode b_W_cell 12 = .ok (.iconst 0, 1) := by decide +kernel
theorem d_W_cell_13 : decode b_W_cell 13 = .ok (.ireturn, 1) := by decide +kernel
abbrev w_W_column : List Cond := .codeWith y_W_column b_W_column 4 (some .int) [(0, 9, 12, 13), (0, 9, 15, 15)] :: wA
abbrev rt_W_column : Room := { frames := 8, cells := 1, slots := 6, locals := 141 }
abbrev rm_W_column : Room := { frames := 8, cells := 0, slots := 0, locals := 141 }
theorem d_W_column_0 : decode b_W_column 0 = .ok (.aload_n 2, 1) := by decide +kernel
theorem d_W_column_1 : decode b_W_column 1 = .ok (.iconst 0, 1) := by decide +kernel
theorem d_W_column_2 : decode b_W_column 2 = .ok (.aload_n 0, 1) := by decide +kernel
theorem d_W_column_3 : decode b_W_column 3 = .ok (.iload_n 1, 1) := by decide +kernel
theorem d_W_column_4 : decode b_W_column 4 = .ok (.invokevirtual 7, 3) := by decide +kernel
theorem d_W_column_7 : decode b_W_column 7 = .ok (.i2l, 1) := by decide +kernel
theorem d_W_column_8 : decode b_W_column 8 = .ok (.lastore, 1) := by decide +kernel
theorem d_W_column_9 : decode b_W_column 9 = .ok (.goto 9, 3) := by decide +kernel
theorem d_W_column_12 : decode b_W_column 12 = .ok (.astore_n 3, 1) := by decide +kernel
theorem d_W_column_13 : decode b_W_column 13 = .ok (.iconst 1, 1) := by decide +kernel
theorem d_W_column_14 : decode b_W_column 14 = .ok (.ireturn, 1) := by decide +kernel
theorem d_W_column_15 : decode b_W_column 15 = .ok (.astore_n 3, 1) := by decide +kernel
theorem d_W_column_16 : decode b_W_column 16 = .ok (.iconst 2, 1) := by decide +kernel
theorem d_W_column_17 : decode b_W_column 17 = .ok (.ireturn, 1) := by decide +kernel
theorem d_W_column_18 : decode b_W_column 18 = .ok (.iconst 0, 1) := by decide +kernel
theorem d_W_column_19 : decode b_W_column 19 = .ok (.ireturn, 1) := by decide +kernel
abbrev w_W_address : List Cond := .codeWith y_W_address b_W_address 4 (some .int) [(0, 16, 19, 15)] :: wA
abbrev rt_W_address : Room := { frames := 8, cells := 1, slots := 6, locals := 142 }
abbrev rm_W_address : Room := { frames := 8, cells := 0, slots := 0, locals := 142 }
theorem d_W_address_0 : decode b_W_address 0 = .ok (.aload_n 2, 1) := by decide +kernel
theorem d_W_address_1 : decode b_W_address 1 = .ok (.iconst 0, 1) := by decide +kernel
theorem d_W_address_2 : decode b_W_address 2 = .ok (.aload_n 0, 1) := by decide +kernel
theorem d_W_address_3 : decode b_W_address 3 = .ok (.iload_n 1, 1) := by decide +kernel
theorem d_W_address_4 : decode b_W_address 4 = .ok (.invokevirtual 17, 3) := by decide +kernel
theorem d_W_address_7 : decode b_W_address 7 = .ok (.ifCond .eq 7, 3) := by decide +kernel
theorem d_W_address_10 : decode b_W_address 10 = .ok (.lconst 1, 1) := by decide +kernel
theorem d_W_address_11 : decode b_W_address 11 = .ok (.goto 4, 3) := by decide +kernel
theorem d_W_address_14 : decode b_W_address 14 = .ok (.lconst 0, 1) := by decide +kernel
theorem d_W_address_15 : decode b_W_address 15 = .ok (.lastore, 1) := by decide +kernel
theorem d_W_address_16 : decode b_W_address 16 = .ok (.goto 6, 3) := by decide +kernel
theorem d_W_address_19 : decode b_W_address 19 = .ok (.astore_n 3, 1) := by decide +kernel
theorem d_W_address_20 : decode b_W_address 20 = .ok (.iconst 1, 1) := by decide +kernel
theorem d_W_address_21 : decode b_W_address 21 = .ok (.ireturn, 1) := by decide +kernel
theorem d_W_address_22 : decode b_W_address 22 = .ok (.iconst 0, 1) := by decide +kernel
theorem d_W_address_23 : decode b_W_address 23 = .ok (.ireturn, 1) := by decide +kernel
abbrev w_W_read : List Cond := .codeWith y_W_read b_W_read 6 (some .int) [(0, 11, 14, 25)] :: wA
abbrev rt_W_read : Room := { frames := 8, cells := 1, slots := 6, locals := 144 }
abbrev rm_W_read : Room := { frames := 8, cells := 0, slots := 0, locals := 144 }
theorem d_W_read_0 : decode b_W_read 0 = .ok (.aload 4, 2) := by decide +kernel
theorem d_W_read_2 : decode b_W_read 2 = .ok (.iconst 0, 1) := by decide +kernel
theorem d_W_read_3 : decode b_W_read 3 = .ok (.aload_n 0, 1) := by decide +kernel
theorem d_W_read_4 : decode b_W_read 4 = .ok (.lload_n 1, 1) := by decide +kernel
theorem d_W_read_5 : decode b_W_read 5 = .ok (.iload_n 3, 1) := by decide +kernel
theorem d_W_read_6 : decode b_W_read 6 = .ok (.invokevirtual 21, 3) := by decide +kernel
theorem d_W_read_9 : decode b_W_read 9 = .ok (.i2l, 1) := by decide +kernel
theorem d_W_read_10 : decode b_W_read 10 = .ok (.lastore, 1) := by decide +kernel
theorem d_W_read_11 : decode b_W_read 11 = .ok (.goto 7, 3) := by decide +kernel
theorem d_W_read_14 : decode b_W_read 14 = .ok (.astore 5, 2) := by decide +kernel
theorem d_W_read_16 : decode b_W_read 16 = .ok (.iconst 1, 1) := by decide +kernel
theorem d_W_read_17 : decode b_W_read 17 = .ok (.ireturn, 1) := by decide +kernel
theorem d_W_read_18 : decode b_W_read 18 = .ok (.iconst 0, 1) := by decide +kernel
theorem d_W_read_19 : decode b_W_read 19 = .ok (.ireturn, 1) := by decide +kernel
abbrev w_W_flips : List Cond := .codeWith y_W_flips b_W_flips 5 (some .int) [(0, 10, 13, 13)] :: wA
abbrev rt_W_flips : Room := { frames := 8, cells := 1, slots := 6, locals := 145 }
abbrev rm_W_flips : Room := { frames := 8, cells := 0, slots := 0, locals := 145 }
theorem d_W_flips_0 : decode b_W_flips 0 = .ok (.aload_n 3, 1) := by decide +kernel
theorem d_W_flips_1 : decode b_W_flips 1 = .ok (.iconst 0, 1) := by decide +kernel
theorem d_W_flips_2 : decode b_W_flips 2 = .ok (.aload_n 0, 1) := by decide +kernel
theorem d_W_flips_3 : decode b_W_flips 3 = .ok (.iload_n 1, 1) := by decide +kernel
theorem d_W_flips_4 : decode b_W_flips 4 = .ok (.iload_n 2, 1) := by decide +kernel
theorem d_W_flips_5 : decode b_W_flips 5 = .ok (.invokevirtual 27, 3) := by decide +kernel
theorem d_W_flips_8 : decode b_W_flips 8 = .ok (.i2l, 1) := by decide +kernel
theorem d_W_flips_9 : decode b_W_flips 9 = .ok (.lastore, 1) := by decide +kernel
theorem d_W_flips_10 : decode b_W_flips 10 = .ok (.goto 7, 3) := by decide +kernel
theorem d_W_flips_13 : decode b_W_flips 13 = .ok (.astore 4, 2) := by decide +kernel
theorem d_W_flips_15 : decode b_W_flips 15 = .ok (.iconst 1, 1) := by decide +kernel
theorem d_W_flips_16 : decode b_W_flips 16 = .ok (.ireturn, 1) := by decide +kernel
theorem d_W_flips_17 : decode b_W_flips 17 = .ok (.iconst 0, 1) := by decide +kernel
theorem d_W_flips_18 : decode b_W_flips 18 = .ok (.ireturn, 1) := by decide +kernel
abbrev w_W_table : List Cond := .codeWith y_W_table b_W_table 4 (some .int) [(0, 9, 12, 13)] :: wA
abbrev rt_W_table : Room := { frames := 8, cells := 1, slots := 6, locals := 166 }
abbrev rm_W_table : Room := { frames := 8, cells := 0, slots := 0, locals := 166 }
theorem d_W_table_0 : decode b_W_table 0 = .ok (.aload_n 2, 1) := by decide +kernel
theorem d_W_table_1 : decode b_W_table 1 = .ok (.iconst 0, 1) := by decide +kernel
theorem d_W_table_2 : decode b_W_table 2 = .ok (.aload_n 0, 1) := by decide +kernel
theorem d_W_table_3 : decode b_W_table 3 = .ok (.iload_n 1, 1) := by decide +kernel
theorem d_W_table_4 : decode b_W_table 4 = .ok (.invokevirtual 31, 3) := by decide +kernel
theorem d_W_table_7 : decode b_W_table 7 = .ok (.i2l, 1) := by decide +kernel
theorem d_W_table_8 : decode b_W_table 8 = .ok (.lastore, 1) := by decide +kernel
theorem d_W_table_9 : decode b_W_table 9 = .ok (.goto 6, 3) := by decide +kernel
theorem d_W_table_12 : decode b_W_table 12 = .ok (.astore_n 3, 1) := by decide +kernel
theorem d_W_table_13 : decode b_W_table 13 = .ok (.iconst 1, 1) := by decide +kernel
theorem d_W_table_14 : decode b_W_table 14 = .ok (.ireturn, 1) := by decide +kernel
theorem d_W_table_15 : decode b_W_table 15 = .ok (.iconst 0, 1) := by decide +kernel
theorem d_W_table_16 : decode b_W_table 16 = .ok (.ireturn, 1) := by decide +kernel
abbrev w_W_bursts : List Cond := .codeWith y_W_bursts b_W_bursts 4 (some .int) [(0, 16, 19, 25)] :: wA
abbrev rt_W_bursts : Room := { frames := 8, cells := 1, slots := 6, locals := 191 }
abbrev rm_W_bursts : Room := { frames := 8, cells := 0, slots := 0, locals := 191 }
theorem d_W_bursts_0 : decode b_W_bursts 0 = .ok (.aload_n 2, 1) := by decide +kernel
theorem d_W_bursts_1 : decode b_W_bursts 1 = .ok (.iconst 0, 1) := by decide +kernel
theorem d_W_bursts_2 : decode b_W_bursts 2 = .ok (.aload_n 0, 1) := by decide +kernel
theorem d_W_bursts_3 : decode b_W_bursts 3 = .ok (.iload_n 1, 1) := by decide +kernel
theorem d_W_bursts_4 : decode b_W_bursts 4 = .ok (.invokevirtual 34, 3) := by decide +kernel
theorem d_W_bursts_7 : decode b_W_bursts 7 = .ok (.ifCond .eq 7, 3) := by decide +kernel
theorem d_W_bursts_10 : decode b_W_bursts 10 = .ok (.lconst 1, 1) := by decide +kernel
theorem d_W_bursts_11 : decode b_W_bursts 11 = .ok (.goto 4, 3) := by decide +kernel
theorem d_W_bursts_14 : decode b_W_bursts 14 = .ok (.lconst 0, 1) := by decide +kernel
theorem d_W_bursts_15 : decode b_W_bursts 15 = .ok (.lastore, 1) := by decide +kernel
theorem d_W_bursts_16 : decode b_W_bursts 16 = .ok (.goto 6, 3) := by decide +kernel
theorem d_W_bursts_19 : decode b_W_bursts 19 = .ok (.astore_n 3, 1) := by decide +kernel
theorem d_W_bursts_20 : decode b_W_bursts 20 = .ok (.iconst 1, 1) := by decide +kernel
theorem d_W_bursts_21 : decode b_W_bursts 21 = .ok (.ireturn, 1) := by decide +kernel
theorem d_W_bursts_22 : decode b_W_bursts 22 = .ok (.iconst 0, 1) := by decide +kernel
theorem d_W_bursts_23 : decode b_W_bursts 23 = .ok (.ireturn, 1) := by decide +kernel
abbrev w_W_spare : List Cond := .codeWith y_W_spare b_W_spare 4 (some .int) [(0, 9, 12, 13), (0, 9, 15, 15)] :: wA
abbrev rt_W_spare : Room := { frames := 8, cells := 1, slots := 6, locals := 143 }
abbrev rm_W_spare : Room := { frames := 8, cells := 0, slots := 0, locals := 143 }
theorem d_W_spare_0 : decode b_W_spare 0 = .ok (.aload_n 2, 1) := by decide +kernel
theorem d_W_spare_1 : decode b_W_spare 1 = .ok (.iconst 0, 1) := by decide +kernel
theorem d_W_spare_2 : decode b_W_spare 2 = .ok (.aload_n 0, 1) := by decide +kernel
theorem d_W_spare_3 : decode b_W_spare 3 = .ok (.iload_n 1, 1) := by decide +kernel
theorem d_W_spare_4 : decode b_W_spare 4 = .ok (.invokevirtual 37, 3) := by decide +kernel
theorem d_W_spare_7 : decode b_W_spare 7 = .ok (.i2l, 1) := by decide +kernel
theorem d_W_spare_8 : decode b_W_spare 8 = .ok (.lastore, 1) := by decide +kernel
theorem d_W_spare_9 : decode b_W_spare 9 = .ok (.goto 9, 3) := by decide +kernel
theorem d_W_spare_12 : decode b_W_spare 12 = .ok (.astore_n 3, 1) := by decide +kernel
theorem d_W_spare_13 : decode b_W_spare 13 = .ok (.iconst 1, 1) := by decide +kernel
theorem d_W_spare_14 : decode b_W_spare 14 = .ok (.ireturn, 1) := by decide +kernel
theorem d_W_spare_15 : decode b_W_spare 15 = .ok (.astore_n 3, 1) := by decide +kernel
theorem d_W_spare_16 : decode b_W_spare 16 = .ok (.iconst 2, 1) := by decide +kernel
theorem d_W_spare_17 : decode b_W_spare 17 = .ok (.ireturn, 1) := by decide +kernel
theorem d_W_spare_18 : decode b_W_spare 18 = .ok (.iconst 0, 1) := by decide +kernel
theorem d_W_spare_19 : decode b_W_spare 19 = .ok (.ireturn, 1) := by decide +kernel
abbrev w_W_spareOf : List Cond := .codeWith y_W_spareOf b_W_spareOf 4 (some .int) [(0, 9, 12, 13)] :: wA
abbrev rt_W_spareOf : Room := { frames := 8, cells := 1, slots := 6, locals := 141 }
abbrev rm_W_spareOf : Room := { frames := 8, cells := 0, slots := 0, locals := 141 }
theorem d_W_spareOf_0 : decode b_W_spareOf 0 = .ok (.aload_n 2, 1) := by decide +kernel
theorem d_W_spareOf_1 : decode b_W_spareOf 1 = .ok (.iconst 0, 1) := by decide +kernel
theorem d_W_spareOf_2 : decode b_W_spareOf 2 = .ok (.aload_n 0, 1) := by decide +kernel
theorem d_W_spareOf_3 : decode b_W_spareOf 3 = .ok (.iload_n 1, 1) := by decide +kernel
theorem d_W_spareOf_4 : decode b_W_spareOf 4 = .ok (.invokevirtual 40, 3) := by decide +kernel
theorem d_W_spareOf_7 : decode b_W_spareOf 7 = .ok (.i2l, 1) := by decide +kernel
theorem d_W_spareOf_8 : decode b_W_spareOf 8 = .ok (.lastore, 1) := by decide +kernel
theorem d_W_spareOf_9 : decode b_W_spareOf 9 = .ok (.goto 6, 3) := by decide +kernel
theorem d_W_spareOf_12 : decode b_W_spareOf 12 = .ok (.astore_n 3, 1) := by decide +kernel
theorem d_W_spareOf_13 : decode b_W_spareOf 13 = .ok (.iconst 1, 1) := by decide +kernel
theorem d_W_spareOf_14 : decode b_W_spareOf 14 = .ok (.ireturn, 1) := by decide +kernel
theorem d_W_spareOf_15 : decode b_W_spareOf 15 = .ok (.iconst 0, 1) := by decide +kernel
theorem d_W_spareOf_16 : decode b_W_spareOf 16 = .ok (.ireturn, 1) := by decide +kernel
abbrev w_W_share : List Cond := .codeWith y_W_share b_W_share 4 (some .int) [(0, 9, 12, 13)] :: wA
abbrev rt_W_share : Room := { frames := 8, cells := 1, slots := 6, locals := 169 }
abbrev rm_W_share : Room := { frames := 8, cells := 0, slots := 0, locals := 169 }
theorem d_W_share_0 : decode b_W_share 0 = .ok (.aload_n 2, 1) := by decide +kernel
theorem d_W_share_1 : decode b_W_share 1 = .ok (.iconst 0, 1) := by decide +kernel
theorem d_W_share_2 : decode b_W_share 2 = .ok (.aload_n 0, 1) := by decide +kernel
theorem d_W_share_3 : decode b_W_share 3 = .ok (.iload_n 1, 1) := by decide +kernel
theorem d_W_share_4 : decode b_W_share 4 = .ok (.invokevirtual 43, 3) := by decide +kernel
theorem d_W_share_7 : decode b_W_share 7 = .ok (.i2l, 1) := by decide +kernel
theorem d_W_share_8 : decode b_W_share 8 = .ok (.lastore, 1) := by decide +kernel
theorem d_W_share_9 : decode b_W_share 9 = .ok (.goto 6, 3) := by decide +kernel
theorem d_W_share_12 : decode b_W_share 12 = .ok (.astore_n 3, 1) := by decide +kernel
theorem d_W_share_13 : decode b_W_share 13 = .ok (.iconst 1, 1) := by decide +kernel
theorem d_W_share_14 : decode b_W_share 14 = .ok (.ireturn, 1) := by decide +kernel
theorem d_W_share_15 : decode b_W_share 15 = .ok (.iconst 0, 1) := by decide +kernel
theorem d_W_share_16 : decode b_W_share 16 = .ok (.ireturn, 1) := by decide +kernel
set_option maxHeartbeats 4000000 in
set_option maxRecDepth 100000 in
theorem c_W_cell (l : Launch) (D : va_G) (g : Nat → ClassId) (sz : Nat) (ws : va_W) (k0 ao n0 j : Nat) (f : Nat → Int32) (h0 : ws[k0]? = some (ao, .inl (g 0, n0, .inl f))) (hn0 : n0 < 2 ^ 31) (hj0 : j < 2 ^ 31) (hj : j < n0) : Met l y_W_cell w_W_cell rm_W_cell (va_Pc [.ref ao, .int (nI j)] (pP D (tyl g) (ws) sz)) (va_Qi (fun (r : Int32) (u : Unit) => r = f j) (fun u => qB D (va_A (ws) sz) (ws)) (va_A (ws) sz)) 0 0 (va_A (ws) sz) := by
  refine Met.ofW (cc := b_W_cell) (maxL := 2) (ret := (some .int)) (by decide +kernel) rfl ?_
  intro p e s m args below meth c s₁ Bq hml hv
  have hx := Bq.exec
  have hb := Bq.bytes
  have hr := Bq.returns
  have hts : ∀ w ∈ wA, w.before args s = true := fun w h => atoms_spec (ws := w_W_cell) Bq.pre w (List.mem_cons_of_mem _ h)
  have hown : s.vm.findClass R_W = some m.cls := findClass_of_methodNamed Bq.named
  have hlocks := Bq.notSynchronized
  obtain ⟨rfl, hsz, hP, hKK, hD0⟩ := hv
  have hK := hKK.1
  subst hsz
  have hD := hD0.self (sz := s.heap.size)
  generalize hAe : va_A (ws) s.heap.size = A at hD ⊢
  have hA : ∀ q : Nat, s.heap.size ≤ q → A q := fun q h => by rw [← hAe]; exact Or.inr h
  have hS : va_S A s.heap s.heap [] := va_S.rf
  have hl := lv_entry ([.ref ao, .int (nI j)]) (n := 2) (Nat.le_of_ble_eq_true rfl)
  rw [lg_entry_eq]
  generalize (lg_sl ([.ref ao, .int (nI j)]) ++ List.replicate (2 - (lg_sl ([.ref ao, .int (nI j)])).length) Slot.unset).toArray = ls at hl ⊢
  have hl : lv_has ls 2 [(0, .ref ao), (1, .int (nI j))] := hl
  generalize hQ : MQ below (va_Qi (fun (r : Int32) (u : Unit) => r = f j) (fun u => qB D (A) (ws)) (A)) [.ref ao, .int (nI j)].toArray s 0 0 A = Q
  refine lv_iload_n hx hb d_W_cell_0 rfl (lv_at hl 1 rfl) ?_
  refine lv_aload_n hx hb d_W_cell_1 rfl (lv_at hl 0 rfl) ?_
  refine va_alen hx hb hK hP k0 0 h0 (v := nI n0) rfl (rfl) d_W_cell_2 ?_
  refine lx_icmp_ge (tgt := 12) hx hb d_W_cell_3 (by decide) (by omega) (by omega) (fun c3 => ?_) (fun c3 => ?_)
  · skip
    exact absurd hj (by omega)
  · skip
    refine lv_aload_n hx hb d_W_cell_6 rfl (lv_at hl 0 rfl) ?_
    refine lv_iload_n hx hb d_W_cell_7 rfl (lv_at hl 1 rfl) ?_
    refine lx_iald (v := f j) hx hb hK hP k0 0 h0 rfl (j := j) (by omega) (by omega) (rfl) d_W_cell_8 ?_
    refine lv_goto (tgt := 13) hx hb d_W_cell_9 (by decide) ?_
    rw [← hQ]
    refine W.iret (v := f j) hx hb hr ?_ hS.2.2 d_W_cell_13
    exact fun t ht hW => ⟨⟨f j, (), rfl, rfl, by rw [ht]; exact hP, hD⟩, hS.F ht⟩
set_option maxHeartbeats 4000000 in
set_option maxRecDepth 100000 in
theorem c_W_cell0 (l : Launch) (D : va_G) (g : Nat → ClassId) (sz : Nat) (ws : va_W) (k0 ao n0 j : Nat) (f : Nat → Int32) (h0 : ws[k0]? = some (ao, .inl (g 0, n0, .inl f))) (hn0 : n0 < 2 ^ 31) (hj0 : j < 2 ^ 31) (hj : n0 ≤ j) : Met l y_W_cell w_W_cell rm_W_cell (va_Pc [.ref ao, .int (nI j)] (pP D (tyl g) (ws) sz)) (va_Qi (fun (r : Int32) (u : Unit) => r = nI 0) (fun u => qB D (va_A (ws) sz) (ws)) (va_A (ws) sz)) 0 0 (va_A (ws) sz) := by
  refine Met.ofW (cc := b_W_cell) (maxL := 2) (ret := (some .int)) (by decide +kernel) rfl ?_
  intro p e s m args below meth c s₁ Bq hml hv
  have hx := Bq.exec
  have hb := Bq.bytes
  have hr := Bq.returns
  have hts : ∀ w ∈ wA, w.before args s = true := fun w h => atoms_spec (ws := w_W_cell) Bq.pre w (List.mem_cons_of_mem _ h)
  have hown : s.vm.findClass R_W = some m.cls := findClass_of_methodNamed Bq.named
  have hlocks := Bq.notSynchronized
  obtain ⟨rfl, hsz, hP, hKK, hD0⟩ := hv
  have hK := hKK.1
  subst hsz
  have hD := hD0.self (sz := s.heap.size)
  generalize hAe : va_A (ws) s.heap.size = A at hD ⊢
  have hA : ∀ q : Nat, s.heap.size ≤ q → A q := fun q h => by rw [← hAe]; exact Or.inr h
  have hS : va_S A s.heap s.heap [] := va_S.rf
  have hl := lv_entry ([.ref ao, .int (nI j)]) (n := 2) (Nat.le_of_ble_eq_true rfl)
  rw [lg_entry_eq]
  generalize (lg_sl ([.ref ao, .int (nI j)]) ++ List.replicate (2 - (lg_sl ([.ref ao, .int (nI j)])).length) Slot.unset).toArray = ls at hl ⊢
  have hl : lv_has ls 2 [(0, .ref ao), (1, .int (nI j))] := hl
  generalize hQ : MQ below (va_Qi (fun (r : Int32) (u : Unit) => r = nI 0) (fun u => qB D (A) (ws)) (A)) [.ref ao, .int (nI j)].toArray s 0 0 A = Q
  refine lv_iload_n hx hb d_W_cell_0 rfl (lv_at hl 1 rfl) ?_
  refine lv_aload_n hx hb d_W_cell_1 rfl (lv_at hl 0 rfl) ?_
  refine va_alen hx hb hK hP k0 0 h0 (v := nI n0) rfl (rfl) d_W_cell_2 ?_
  refine lx_icmp_ge (tgt := 12) hx hb d_W_cell_3 (by decide) (by omega) (by omega) (fun c3 => ?_) (fun c3 => ?_)
  · skip
    refine lv_iconst (v := nI 0) hx hb d_W_cell_12 (by decide) ?_
    rw [← hQ]
    refine W.iret (v := nI 0) hx hb hr ?_ hS.2.2 d_W_cell_13
    exact fun t ht hW => ⟨⟨nI 0, (), rfl, rfl, by rw [ht]; exact hP, hD⟩, hS.F ht⟩
  · skip
    exact absurd hj (by omega)
set_option maxHeartbeats 4000000 in
set_option maxRecDepth 100000 in
theorem c_W_column (l : Launch) (D : va_G) (g : Nat → ClassId) (sz : Nat) (wr : va_W) (ou : Nat) (fo : Nat → Int64) (x tn ac sp oc kd M ha af w1 c1 t1 an su : Nat) (a0 : Int64) (b0 lb : Int32) (fa fs : Nat → Int32) (hcw : CodeW g kd M oc wr) (hM0 : 0 < M) (hM : M ≤ 57) (j : Nat) (hj : j < M) (hk2 : kd ≠ 2) (hkd : kd ≤ 3) : Met l y_W_column w_W_column rm_W_column (va_Pc [.ref x, .int (nI j), .ref ou] (pP D (tyl g) ((tn, .inr (5, [.long (a0), .int (b0)])) :: (x, .inr (0, [.int (nI kd), .int (nI M), .int (nI (M + ckb kd M)), .long (lN (2 ^ M - 1)), .int (nI (2 ^ ckb kd M - 1)), .ref oc, .ref tn, .int (nI ha), .int (nI af), .long (lN w1), .int (nI c1), .int (nI t1), .ref ac, .int (nI an), .int (lb), .ref sp, .int (nI su)])) :: (ac, .inl (g 0, 8, .inl (fa))) :: (sp, .inl (g 0, 8, .inl (fs))) :: (ou, .inl (g 1, 1, .inr (.inl (fo)))) :: wr) sz)) (va_Qi (fun (r : Int32) (u : Unit) => r = nI 0) (fun u => qB D (va_A ((tn, .inr (5, [.long (a0), .int (b0)])) :: (x, .inr (0, [.int (nI kd), .int (nI M), .int (nI (M + ckb kd M)), .long (lN (2 ^ M - 1)), .int (nI (2 ^ ckb kd M - 1)), .ref oc, .ref tn, .int (nI ha), .int (nI af), .long (lN w1), .int (nI c1), .int (nI t1), .ref ac, .int (nI an), .int (lb), .ref sp, .int (nI su)])) :: (ac, .inl (g 0, 8, .inl (fa))) :: (sp, .inl (g 0, 8, .inl (fs))) :: (ou, .inl (g 1, 1, .inr (.inl (fo)))) :: wr) sz) ((tn, .inr (5, [.long (a0), .int (b0)])) :: (x, .inr (0, [.int (nI kd), .int (nI M), .int (nI (M + ckb kd M)), .long (lN (2 ^ M - 1)), .int (nI (2 ^ ckb kd M - 1)), .ref oc, .ref tn, .int (nI ha), .int (nI af), .long (lN w1), .int (nI c1), .int (nI t1), .ref ac, .int (nI an), .int (lb), .ref sp, .int (nI su)])) :: (ac, .inl (g 0, 8, .inl (fa))) :: (sp, .inl (g 0, 8, .inl (fs))) :: (ou, .inl (g 1, 1, .inr (.inl (vp_updL fo 0 ((nI (colK kd M j)).toInt64))))) :: wr)) (va_A ((tn, .inr (5, [.long (a0), .int (b0)])) :: (x, .inr (0, [.int (nI kd), .int (nI M), .int (nI (M + ckb kd M)), .long (lN (2 ^ M - 1)), .int (nI (2 ^ ckb kd M - 1)), .ref oc, .ref tn, .int (nI ha), .int (nI af), .long (lN w1), .int (nI c1), .int (nI t1), .ref ac, .int (nI an), .int (lb), .ref sp, .int (nI su)])) :: (ac, .inl (g 0, 8, .inl (fa))) :: (sp, .inl (g 0, 8, .inl (fs))) :: (ou, .inl (g 1, 1, .inr (.inl (fo)))) :: wr) sz)) 0 0 (va_A ((tn, .inr (5, [.long (a0), .int (b0)])) :: (x, .inr (0, [.int (nI kd), .int (nI M), .int (nI (M + ckb kd M)), .long (lN (2 ^ M - 1)), .int (nI (2 ^ ckb kd M - 1)), .ref oc, .ref tn, .int (nI ha), .int (nI af), .long (lN w1), .int (nI c1), .int (nI t1), .ref ac, .int (nI an), .int (lb), .ref sp, .int (nI su)])) :: (ac, .inl (g 0, 8, .inl (fa))) :: (sp, .inl (g 0, 8, .inl (fs))) :: (ou, .inl (g 1, 1, .inr (.inl (fo)))) :: wr) sz) := by
  refine va_MetW (cc := b_W_column) (maxL := 4) (ret := (some .int)) (hh := [(0, 9, 12, 13), (0, 9, 15, 15)]) (by decide +kernel) rfl ?_
  intro p e s m args below meth c s₁ Bq hml hv
  have hx := Bq.exec
  have hb := Bq.bytes
  have hr := Bq.returns
  have htab := tabW_of (hh := [(0, 9, 12, 13), (0, 9, 15, 15)]) Bq rfl
  have hts : ∀ w ∈ wA, w.before args s = true := fun w h => atoms_spec (ws := w_W_column) Bq.pre w (List.mem_cons_of_mem _ h)
  have hown : s.vm.findClass R_W = some m.cls := findClass_of_methodNamed Bq.named
  have hlocks := Bq.notSynchronized
  obtain ⟨rfl, hsz, hP, hKK, hD0⟩ := hv
  have hK := hKK.1
  subst hsz
  have hD := hD0.self (sz := s.heap.size)
  generalize hAe : va_A ((tn, .inr (5, [.long (a0), .int (b0)])) :: (x, .inr (0, [.int (nI kd), .int (nI M), .int (nI (M + ckb kd M)), .long (lN (2 ^ M - 1)), .int (nI (2 ^ ckb kd M - 1)), .ref oc, .ref tn, .int (nI ha), .int (nI af), .long (lN w1), .int (nI c1), .int (nI t1), .ref ac, .int (nI an), .int (lb), .ref sp, .int (nI su)])) :: (ac, .inl (g 0, 8, .inl (fa))) :: (sp, .inl (g 0, 8, .inl (fs))) :: (ou, .inl (g 1, 1, .inr (.inl (fo)))) :: wr) s.heap.size = A at hD ⊢
  have hA : ∀ q : Nat, s.heap.size ≤ q → A q := fun q h => by rw [← hAe]; exact Or.inr h
  have hS : va_S A s.heap s.heap [] := va_S.rf
  have hl := lv_entry ([.ref x, .int (nI j), .ref ou]) (n := 4) (Nat.le_of_ble_eq_true rfl)
  rw [lg_entry_eq]
  generalize (lg_sl ([.ref x, .int (nI j), .ref ou]) ++ List.replicate (4 - (lg_sl ([.ref x, .int (nI j), .ref ou])).length) Slot.unset).toArray = ls at hl ⊢
  have hl : lv_has ls 4 [(0, .ref x), (1, .int (nI j)), (2, .ref ou)] := hl
  generalize hQ : MQ below (va_Qi (fun (r : Int32) (u : Unit) => r = nI 0) (fun u => qB D (A) ((tn, .inr (5, [.long (a0), .int (b0)])) :: (x, .inr (0, [.int (nI kd), .int (nI M), .int (nI (M + ckb kd M)), .long (lN (2 ^ M - 1)), .int (nI (2 ^ ckb kd M - 1)), .ref oc, .ref tn, .int (nI ha), .int (nI af), .long (lN w1), .int (nI c1), .int (nI t1), .ref ac, .int (nI an), .int (lb), .ref sp, .int (nI su)])) :: (ac, .inl (g 0, 8, .inl (fa))) :: (sp, .inl (g 0, 8, .inl (fs))) :: (ou, .inl (g 1, 1, .inr (.inl (vp_updL fo 0 ((nI (colK kd M j)).toInt64))))) :: wr)) (A)) [.ref x, .int (nI j), .ref ou].toArray s 0 0 A = Q
  refine lv_aload_n hx hb d_W_column_0 rfl (lv_at hl 2 rfl) ?_
  refine lv_iconst (v := nI 0) hx hb d_W_column_1 (by decide) ?_
  refine lv_aload_n hx hb d_W_column_2 rfl (lv_at hl 0 rfl) ?_
  refine lv_iload_n hx hb d_W_column_3 rfl (lv_at hl 1 rfl) ?_
  refine lc_Vi (b := x) (As := [.int (nI j)]) (rest := [.int (nI 0), .ref ou]) ⟨hx, hb, hml, hown, hts⟩ (c_C_column l D g _ ((ou, .inl (g 1, 1, .inr (.inl (fo)))) :: wr) x tn ac sp oc kd M ha af w1 c1 t1 an su a0 b0 lb fa fs (hcw.cons _) hM0 hM j hj hk2 hkd) (kV 1 hts m_316 m_313 m_314 m_315 m_30 (by decide +kernel) ⟨Nat.le_of_ble_eq_true rfl, Nat.le_of_ble_eq_true rfl⟩) (va_recv hK hP (ci := 0) (q0 := 1) rfl rfl) hKK hP hD hS hA hl.1 rfl rfl (Nat.le_of_ble_eq_true rfl) d_W_column_4 ⟨Nat.le_of_ble_eq_true rfl, Nat.le_of_ble_eq_true rfl⟩ (fun rr u H locs er hP hD hS => ?_)
  obtain rfl : rr = nI (colK kd M j) := er
  refine lv_i2l (v := (nI (colK kd M j)).toInt64) hx hb d_W_column_7 (rfl) ?_
  refine lx_last (f' := vp_updL fo 0 ((nI (colK kd M j)).toInt64)) hx hb hK hP hD hS 4 1 rfl rfl (j := 0) (by omega) (by omega) (rfl) d_W_column_8 (fun H locs hP hD hS => ?_)
  have hP : va_P D vwCl ((tn, .inr (5, [.long (a0), .int (b0)])) :: (x, .inr (0, [.int (nI kd), .int (nI M), .int (nI (M + ckb kd M)), .long (lN (2 ^ M - 1)), .int (nI (2 ^ ckb kd M - 1)), .ref oc, .ref tn, .int (nI ha), .int (nI af), .long (lN w1), .int (nI c1), .int (nI t1), .ref ac, .int (nI an), .int (lb), .ref sp, .int (nI su)])) :: (ac, .inl (g 0, 8, .inl (fa))) :: (sp, .inl (g 0, 8, .inl (fs))) :: (ou, .inl (g 1, 1, .inr (.inl (vp_updL fo 0 ((nI (colK kd M j)).toInt64))))) :: wr) H := hP
  have hD : va_D A ((tn, .inr (5, [.long (a0), .int (b0)])) :: (x, .inr (0, [.int (nI kd), .int (nI M), .int (nI (M + ckb kd M)), .long (lN (2 ^ M - 1)), .int (nI (2 ^ ckb kd M - 1)), .ref oc, .ref tn, .int (nI ha), .int (nI af), .long (lN w1), .int (nI c1), .int (nI t1), .ref ac, .int (nI an), .int (lb), .ref sp, .int (nI su)])) :: (ac, .inl (g 0, 8, .inl (fa))) :: (sp, .inl (g 0, 8, .inl (fs))) :: (ou, .inl (g 1, 1, .inr (.inl (vp_updL fo 0 ((nI (colK kd M j)).toInt64))))) :: wr) := hD
  refine lv_goto (tgt := 18) hx hb d_W_column_9 (by decide) ?_
  refine lv_iconst (v := nI 0) hx hb d_W_column_18 (by decide) ?_
  rw [← hQ]
  refine W.iret (v := nI 0) hx hb hr ?_ hS.2.2 d_W_column_19
  exact fun t ht hW => ⟨⟨nI 0, (), rfl, rfl, by rw [ht]; exact hP, hD⟩, hS.F ht⟩
set_option maxHeartbeats 4000000 in
set_option maxRecDepth 100000 in
theorem t_W_column (l : Launch) (hlt : l.stackTraces = false) (D : va_G) (g : Nat → ClassId) (sz : Nat) (wr : va_W) (ou : Nat) (fo : Nat → Int64) (x tn ac sp oc kd M ha af w1 c1 t1 an su : Nat) (a0 : Int64) (b0 lb : Int32) (fa fs : Nat → Int32) (hM0 : 0 < M) (hM : M ≤ 57) (v : Int32) (hv9 : inBb M v = 0) : Met l y_W_column w_W_column rt_W_column (va_Pc [.ref x, .int (v), .ref ou] (pPW D (tyl g) ((tn, .inr (5, [.long (a0), .int (b0)])) :: (x, .inr (0, [.int (nI kd), .int (nI M), .int (nI (M + ckb kd M)), .long (lN (2 ^ M - 1)), .int (nI (2 ^ ckb kd M - 1)), .ref oc, .ref tn, .int (nI ha), .int (nI af), .long (lN w1), .int (nI c1), .int (nI t1), .ref ac, .int (nI an), .int (lb), .ref sp, .int (nI su)])) :: (ac, .inl (g 0, 8, .inl (fa))) :: (sp, .inl (g 0, 8, .inl (fs))) :: (ou, .inl (g 1, 1, .inr (.inl (fo)))) :: wr) sz)) (va_Qi (fun (r : Int32) (u : Unit) => r = nI 1) (fun _ _ => True) (fun q : Nat => sz ≤ q)) 1 6 (fun q : Nat => sz ≤ q) := by
  refine va_MetW (cc := b_W_column) (maxL := 4) (ret := (some .int)) (hh := [(0, 9, 12, 13), (0, 9, 15, 15)]) (by decide +kernel) rfl ?_
  intro p e s m args below meth c s₁ Bq hml hv
  have hx := Bq.exec
  have hb := Bq.bytes
  have hr := Bq.returns
  have htab := tabW_of (hh := [(0, 9, 12, 13), (0, 9, 15, 15)]) Bq rfl
  have hts : ∀ w ∈ wA, w.before args s = true := fun w h => atoms_spec (ws := w_W_column) Bq.pre w (List.mem_cons_of_mem _ h)
  have hown : s.vm.findClass R_W = some m.cls := findClass_of_methodNamed Bq.named
  have hlocks := Bq.notSynchronized
  obtain ⟨rfl, ⟨hsz, hP, hKK, hD0⟩, hTN, hTS⟩ := hv
  have hK := hKK.1
  subst hsz
  have hD := hD0
  generalize hAe : (fun q : Nat => s.heap.size ≤ q) = A
  have hA : ∀ q : Nat, s.heap.size ≤ q → A q := fun q h => by rw [← hAe]; exact h
  have hS : va_S A s.heap s.heap [] := va_S.rf
  have hl := lv_entry ([.ref x, .int (v), .ref ou]) (n := 4) (Nat.le_of_ble_eq_true rfl)
  rw [lg_entry_eq]
  generalize (lg_sl ([.ref x, .int (v), .ref ou]) ++ List.replicate (4 - (lg_sl ([.ref x, .int (v), .ref ou])).length) Slot.unset).toArray = ls at hl ⊢
  have hl : lv_has ls 4 [(0, .ref x), (1, .int (v)), (2, .ref ou)] := hl
  generalize hQ : MQ below (va_Qi (fun (r : Int32) (u : Unit) => r = nI 1) (fun _ _ => True) (A)) [.ref x, .int (v), .ref ou].toArray s 1 6 A = Q
  have hRc : (headSpec w_W_column rt_W_column).room.cells = 1 := rfl
  have hRs : (headSpec w_W_column rt_W_column).room.slots = 6 := rfl
  refine lv_aload_n hx hb d_W_column_0 rfl (lv_at hl 2 rfl) ?_
  refine lv_iconst (v := nI 0) hx hb d_W_column_1 (by decide) ?_
  refine lv_aload_n hx hb d_W_column_2 rfl (lv_at hl 0 rfl) ?_
  refine lv_iload_n hx hb d_W_column_3 rfl (lv_at hl 1 rfl) ?_
  refine lt_cv1 (b := x) (As := [.int (v)]) (rest := [.int (nI 0), .ref ou]) ⟨hx, hb, hml, hown, hts⟩ (t_C_column l hlt D g _ ((ou, .inl (g 1, 1, .inr (.inl (fo)))) :: wr) x tn ac sp oc kd M ha af w1 c1 t1 an su a0 b0 lb fa fs hM0 hM v hv9) (kV 1 hts m_316 m_313 m_314 m_315 m_30 (by decide +kernel) ⟨Nat.le_of_ble_eq_true rfl, Nat.le_of_ble_eq_true rfl⟩) ⟨pPT_blind _ _ _ _ _, va_recv hK hP (ci := 0) (q0 := 1) rfl rfl, fun U hU hW => ⟨rfl, pPT_of hU hW hP hKK hD hTN.1 hTS⟩⟩ hS hA hl.1 rfl rfl (Nat.le_of_ble_eq_true rfl) d_W_column_4 ⟨Nat.le_of_ble_eq_true rfl, Nat.le_of_ble_eq_true rfl⟩ htab ⟨by decide, by decide⟩ (by decide) (hts _ m_311) (va_Nw.use rfl (hTN.1.2.1 exI (by simp))) (fun q9 H locs hS => ?_)
  refine lv_astore_n (lv' := [(3, .ref q9), (0, .ref x), (1, .int (v)), (2, .ref ou)]) hx hb d_W_column_12 rfl hl (by decide) rfl (fun ls hl => ?_)
  refine lv_iconst (v := nI 1) hx hb d_W_column_13 (by decide) ?_
  refine W.widen (k := 1) (n := 6) (by omega) (by omega) ?_
  rw [← hQ]
  refine W.iret (v := nI 1) hx hb hr ?_ hS.2.2 d_W_column_14
  exact fun t ht hW => ⟨⟨nI 1, (), rfl, rfl, trivial⟩, hS.F ht⟩
set_option maxHeartbeats 4000000 in
set_option maxRecDepth 100000 in
theorem u_W_column (l : Launch) (hlt : l.stackTraces = false) (D : va_G) (g : Nat → ClassId) (sz : Nat) (wr : va_W) (ou : Nat) (fo : Nat → Int64) (x tn ac sp oc kd M ha af w1 c1 t1 an su : Nat) (a0 : Int64) (b0 lb : Int32) (fa fs : Nat → Int32) (hM0 : 0 < M) (hM : M ≤ 57) (j : Nat) (hj : j < M) (hk2 : kd = 2) : Met l y_W_column w_W_column rt_W_column (va_Pc [.ref x, .int (nI j), .ref ou] (pPW D (tyl g) ((tn, .inr (5, [.long (a0), .int (b0)])) :: (x, .inr (0, [.int (nI kd), .int (nI M), .int (nI (M + ckb kd M)), .long (lN (2 ^ M - 1)), .int (nI (2 ^ ckb kd M - 1)), .ref oc, .ref tn, .int (nI ha), .int (nI af), .long (lN w1), .int (nI c1), .int (nI t1), .ref ac, .int (nI an), .int (lb), .ref sp, .int (nI su)])) :: (ac, .inl (g 0, 8, .inl (fa))) :: (sp, .inl (g 0, 8, .inl (fs))) :: (ou, .inl (g 1, 1, .inr (.inl (fo)))) :: wr) sz)) (va_Qi (fun (r : Int32) (u : Unit) => r = nI 2) (fun _ _ => True) (fun q : Nat => sz ≤ q)) 1 6 (fun q : Nat => sz ≤ q) := by
  refine va_MetW (cc := b_W_column) (maxL := 4) (ret := (some .int)) (hh := [(0, 9, 12, 13), (0, 9, 15, 15)]) (by decide +kernel) rfl ?_
  intro p e s m args below meth c s₁ Bq hml hv
  have hx := Bq.exec
  have hb := Bq.bytes
  have hr := Bq.returns
  have htab := tabW_of (hh := [(0, 9, 12, 13), (0, 9, 15, 15)]) Bq rfl
  have hts : ∀ w ∈ wA, w.before args s = true := fun w h => atoms_spec (ws := w_W_column) Bq.pre w (List.mem_cons_of_mem _ h)
  have hown : s.vm.findClass R_W = some m.cls := findClass_of_methodNamed Bq.named
  have hlocks := Bq.notSynchronized
  obtain ⟨rfl, ⟨hsz, hP, hKK, hD0⟩, hTN, hTS⟩ := hv
  have hK := hKK.1
  subst hsz
  have hD := hD0
  generalize hAe : (fun q : Nat => s.heap.size ≤ q) = A
  have hA : ∀ q : Nat, s.heap.size ≤ q → A q := fun q h => by rw [← hAe]; exact h
  have hS : va_S A s.heap s.heap [] := va_S.rf
  have hl := lv_entry ([.ref x, .int (nI j), .ref ou]) (n := 4) (Nat.le_of_ble_eq_true rfl)
  rw [lg_entry_eq]
  generalize (lg_sl ([.ref x, .int (nI j), .ref ou]) ++ List.replicate (4 - (lg_sl ([.ref x, .int (nI j), .ref ou])).length) Slot.unset).toArray = ls at hl ⊢
  have hl : lv_has ls 4 [(0, .ref x), (1, .int (nI j)), (2, .ref ou)] := hl
  generalize hQ : MQ below (va_Qi (fun (r : Int32) (u : Unit) => r = nI 2) (fun _ _ => True) (A)) [.ref x, .int (nI j), .ref ou].toArray s 1 6 A = Q
  have hRc : (headSpec w_W_column rt_W_column).room.cells = 1 := rfl
  have hRs : (headSpec w_W_column rt_W_column).room.slots = 6 := rfl
  refine lv_aload_n hx hb d_W_column_0 rfl (lv_at hl 2 rfl) ?_
  refine lv_iconst (v := nI 0) hx hb d_W_column_1 (by decide) ?_
  refine lv_aload_n hx hb d_W_column_2 rfl (lv_at hl 0 rfl) ?_
  refine lv_iload_n hx hb d_W_column_3 rfl (lv_at hl 1 rfl) ?_
  refine lt_cv2 (b := x) (As := [.int (nI j)]) (rest := [.int (nI 0), .ref ou]) ⟨hx, hb, hml, hown, hts⟩ (u_C_column l hlt D g _ ((ou, .inl (g 1, 1, .inr (.inl (fo)))) :: wr) x tn ac sp oc kd M ha af w1 c1 t1 an su a0 b0 lb fa fs hM0 hM j hj hk2) (kV 1 hts m_316 m_313 m_314 m_315 m_30 (by decide +kernel) ⟨Nat.le_of_ble_eq_true rfl, Nat.le_of_ble_eq_true rfl⟩) ⟨pPT_blind _ _ _ _ _, va_recv hK hP (ci := 0) (q0 := 1) rfl rfl, fun U hU hW => ⟨rfl, pPT_of hU hW hP hKK hD hTN.1 hTS⟩⟩ hS hA hl.1 rfl rfl (Nat.le_of_ble_eq_true rfl) d_W_column_4 ⟨Nat.le_of_ble_eq_true rfl, Nat.le_of_ble_eq_true rfl⟩ htab (by decide) (hts _ m_311) hTN.2 ⟨by decide, by decide⟩ (by decide) (hts _ m_312) (va_Nw.use rfl (hTN.1.2.1 exU (by simp))) (fun q9 H locs hS => ?_)
  refine lv_astore_n (lv' := [(3, .ref q9), (0, .ref x), (1, .int (nI j)), (2, .ref ou)]) hx hb d_W_column_15 rfl hl (by decide) rfl (fun ls hl => ?_)
  refine lv_iconst (v := nI 2) hx hb d_W_column_16 (by decide) ?_
  refine W.widen (k := 1) (n := 6) (by omega) (by omega) ?_
  rw [← hQ]
  refine W.iret (v := nI 2) hx hb hr ?_ hS.2.2 d_W_column_17
  exact fun t ht hW => ⟨⟨nI 2, (), rfl, rfl, trivial⟩, hS.F ht⟩
set_option maxHeartbeats 4000000 in
set_option maxRecDepth 100000 in
theorem c_W_address (l : Launch) (D : va_G) (g : Nat → ClassId) (sz : Nat) (wr : va_W) (ou : Nat) (fo : Nat → Int64) (x tn ac sp oc kd M ha af w1 c1 t1 an su : Nat) (a0 : Int64) (b0 lb : Int32) (fa fs : Nat → Int32) (hcw : CodeW g kd M oc wr) (hM0 : 0 < M) (hM : M ≤ 57) (a : Nat) (ha9 : a < 2 ^ 32) (hha : ha ≤ 1) (hk1 : kd ≠ 1) (hk2 : kd ≠ 2) (hkd : kd ≤ 3) : Met l y_W_address w_W_address rm_W_address (va_Pc [.ref x, .int (nI a), .ref ou] (pP D (tyl g) ((tn, .inr (5, [.long (a0), .int (b0)])) :: (x, .inr (0, [.int (nI kd), .int (nI M), .int (nI (M + ckb kd M)), .long (lN (2 ^ M - 1)), .int (nI (2 ^ ckb kd M - 1)), .ref oc, .ref tn, .int (nI ha), .int (nI af), .long (lN w1), .int (nI c1), .int (nI t1), .ref ac, .int (nI an), .int (lb), .ref sp, .int (nI su)])) :: (ac, .inl (g 0, 8, .inl (fa))) :: (sp, .inl (g 0, 8, .inl (fs))) :: (ou, .inl (g 1, 1, .inr (.inl (fo)))) :: wr) sz)) (va_Qi (fun (r : Int32) (u : Unit) => r = nI 0) (fun u => qB D (va_A ((tn, .inr (5, [.long (a0), .int (b0)])) :: (x, .inr (0, [.int (nI kd), .int (nI M), .int (nI (M + ckb kd M)), .long (lN (2 ^ M - 1)), .int (nI (2 ^ ckb kd M - 1)), .ref oc, .ref tn, .int (nI ha), .int (nI af), .long (lN w1), .int (nI c1), .int (nI t1), .ref ac, .int (nI an), .int (lb), .ref sp, .int (nI su)])) :: (ac, .inl (g 0, 8, .inl (fa))) :: (sp, .inl (g 0, 8, .inl (fs))) :: (ou, .inl (g 1, 1, .inr (.inl (fo)))) :: wr) sz) ((tn, .inr (5, [.long (a0), .int (b0)])) :: (x, .inr (0, [.int (nI kd), .int (nI M), .int (nI (M + ckb kd M)), .long (lN (2 ^ M - 1)), .int (nI (2 ^ ckb kd M - 1)), .ref oc, .ref tn, .int (nI 1), .int (nI (fold a % 2 ^ ckb kd M)), .long (lN w1), .int (nI c1), .int (nI t1), .ref ac, .int (nI an), .int (lb), .ref sp, .int (nI su)])) :: (ac, .inl (g 0, 8, .inl (fa))) :: (sp, .inl (g 0, 8, .inl (fs))) :: (ou, .inl (g 1, 1, .inr (.inl (vp_updL fo 0 (lN ha))))) :: wr)) (va_A ((tn, .inr (5, [.long (a0), .int (b0)])) :: (x, .inr (0, [.int (nI kd), .int (nI M), .int (nI (M + ckb kd M)), .long (lN (2 ^ M - 1)), .int (nI (2 ^ ckb kd M - 1)), .ref oc, .ref tn, .int (nI ha), .int (nI af), .long (lN w1), .int (nI c1), .int (nI t1), .ref ac, .int (nI an), .int (lb), .ref sp, .int (nI su)])) :: (ac, .inl (g 0, 8, .inl (fa))) :: (sp, .inl (g 0, 8, .inl (fs))) :: (ou, .inl (g 1, 1, .inr (.inl (fo)))) :: wr) sz)) 0 0 (va_A ((tn, .inr (5, [.long (a0), .int (b0)])) :: (x, .inr (0, [.int (nI kd), .int (nI M), .int (nI (M + ckb kd M)), .long (lN (2 ^ M - 1)), .int (nI (2 ^ ckb kd M - 1)), .ref oc, .ref tn, .int (nI ha), .int (nI af), .long (lN w1), .int (nI c1), .int (nI t1), .ref ac, .int (nI an), .int (lb), .ref sp, .int (nI su)])) :: (ac, .inl (g 0, 8, .inl (fa))) :: (sp, .inl (g 0, 8, .inl (fs))) :: (ou, .inl (g 1, 1, .inr (.inl (fo)))) :: wr) sz) := by
  refine va_MetW (cc := b_W_address) (maxL := 4) (ret := (some .int)) (hh := [(0, 16, 19, 15)]) (by decide +kernel) rfl ?_
  intro p e s m args below meth c s₁ Bq hml hv
  have hx := Bq.exec
  have hb := Bq.bytes
  have hr := Bq.returns
  have htab := tabW_of (hh := [(0, 16, 19, 15)]) Bq rfl
  have hts : ∀ w ∈ wA, w.before args s = true := fun w h => atoms_spec (ws := w_W_address) Bq.pre w (List.mem_cons_of_mem _ h)
  have hown : s.vm.findClass R_W = some m.cls := findClass_of_methodNamed Bq.named
  have hlocks := Bq.notSynchronized
  obtain ⟨rfl, hsz, hP, hKK, hD0⟩ := hv
  have hK := hKK.1
  subst hsz
  have hD := hD0.self (sz := s.heap.size)
  generalize hAe : va_A ((tn, .inr (5, [.long (a0), .int (b0)])) :: (x, .inr (0, [.int (nI kd), .int (nI M), .int (nI (M + ckb kd M)), .long (lN (2 ^ M - 1)), .int (nI (2 ^ ckb kd M - 1)), .ref oc, .ref tn, .int (nI ha), .int (nI af), .long (lN w1), .int (nI c1), .int (nI t1), .ref ac, .int (nI an), .int (lb), .ref sp, .int (nI su)])) :: (ac, .inl (g 0, 8, .inl (fa))) :: (sp, .inl (g 0, 8, .inl (fs))) :: (ou, .inl (g 1, 1, .inr (.inl (fo)))) :: wr) s.heap.size = A at hD ⊢
  have hA : ∀ q : Nat, s.heap.size ≤ q → A q := fun q h => by rw [← hAe]; exact Or.inr h
  have hS : va_S A s.heap s.heap [] := va_S.rf
  have hl := lv_entry ([.ref x, .int (nI a), .ref ou]) (n := 4) (Nat.le_of_ble_eq_true rfl)
  rw [lg_entry_eq]
  generalize (lg_sl ([.ref x, .int (nI a), .ref ou]) ++ List.replicate (4 - (lg_sl ([.ref x, .int (nI a), .ref ou])).length) Slot.unset).toArray = ls at hl ⊢
  have hl : lv_has ls 4 [(0, .ref x), (1, .int (nI a)), (2, .ref ou)] := hl
  generalize hQ : MQ below (va_Qi (fun (r : Int32) (u : Unit) => r = nI 0) (fun u => qB D (A) ((tn, .inr (5, [.long (a0), .int (b0)])) :: (x, .inr (0, [.int (nI kd), .int (nI M), .int (nI (M + ckb kd M)), .long (lN (2 ^ M - 1)), .int (nI (2 ^ ckb kd M - 1)), .ref oc, .ref tn, .int (nI 1), .int (nI (fold a % 2 ^ ckb kd M)), .long (lN w1), .int (nI c1), .int (nI t1), .ref ac, .int (nI an), .int (lb), .ref sp, .int (nI su)])) :: (ac, .inl (g 0, 8, .inl (fa))) :: (sp, .inl (g 0, 8, .inl (fs))) :: (ou, .inl (g 1, 1, .inr (.inl (vp_updL fo 0 (lN ha))))) :: wr)) (A)) [.ref x, .int (nI a), .ref ou].toArray s 0 0 A = Q
  refine lv_aload_n hx hb d_W_address_0 rfl (lv_at hl 2 rfl) ?_
  refine lv_iconst (v := nI 0) hx hb d_W_address_1 (by decide) ?_
  refine lv_aload_n hx hb d_W_address_2 rfl (lv_at hl 0 rfl) ?_
  refine lv_iload_n hx hb d_W_address_3 rfl (lv_at hl 1 rfl) ?_
  refine lc_Vi (b := x) (As := [.int (nI a)]) (rest := [.int (nI 0), .ref ou]) ⟨hx, hb, hml, hown, hts⟩ (c_C_address l D g _ ((ou, .inl (g 1, 1, .inr (.inl (fo)))) :: wr) x tn ac sp oc kd M ha af w1 c1 t1 an su a0 b0 lb fa fs (hcw.cons _) hM0 hM a ha9 hha hk1 hk2 hkd) (kV 1 hts m_416 m_413 m_414 m_415 m_30 (by decide +kernel) ⟨Nat.le_of_ble_eq_true rfl, Nat.le_of_ble_eq_true rfl⟩) (va_recv hK hP (ci := 0) (q0 := 1) rfl rfl) hKK hP hD hS hA hl.1 rfl rfl (Nat.le_of_ble_eq_true rfl) d_W_address_4 ⟨Nat.le_of_ble_eq_true rfl, Nat.le_of_ble_eq_true rfl⟩ (fun rr u H locs er hP hD hS => ?_)
  have hP : va_P D vwCl ((tn, .inr (5, [.long (a0), .int (b0)])) :: (x, .inr (0, [.int (nI kd), .int (nI M), .int (nI (M + ckb kd M)), .long (lN (2 ^ M - 1)), .int (nI (2 ^ ckb kd M - 1)), .ref oc, .ref tn, .int (nI 1), .int (nI (fold a % 2 ^ ckb kd M)), .long (lN w1), .int (nI c1), .int (nI t1), .ref ac, .int (nI an), .int (lb), .ref sp, .int (nI su)])) :: (ac, .inl (g 0, 8, .inl (fa))) :: (sp, .inl (g 0, 8, .inl (fs))) :: (ou, .inl (g 1, 1, .inr (.inl (fo)))) :: wr) H := hP
  have hD : va_D A ((tn, .inr (5, [.long (a0), .int (b0)])) :: (x, .inr (0, [.int (nI kd), .int (nI M), .int (nI (M + ckb kd M)), .long (lN (2 ^ M - 1)), .int (nI (2 ^ ckb kd M - 1)), .ref oc, .ref tn, .int (nI 1), .int (nI (fold a % 2 ^ ckb kd M)), .long (lN w1), .int (nI c1), .int (nI t1), .ref ac, .int (nI an), .int (lb), .ref sp, .int (nI su)])) :: (ac, .inl (g 0, 8, .inl (fa))) :: (sp, .inl (g 0, 8, .inl (fs))) :: (ou, .inl (g 1, 1, .inr (.inl (fo)))) :: wr) := hD
  obtain rfl : rr = nI ha := er
  refine lx_if_eq (tgt := 14) hx hb d_W_address_7 (by decide) (by omega) (fun c7 => ?_) (fun c7 => ?_)
  · skip
    refine lv_lconst (v := lN 0) hx hb d_W_address_14 (by decide) ?_
    refine lx_last (f' := vp_updL fo 0 (lN ha)) hx hb hK hP hD hS 4 1 rfl rfl (j := 0) (by omega) (by omega) (by rw [show ha = 0 by omega]) d_W_address_15 (fun H locs hP hD hS => ?_)
    have hP : va_P D vwCl ((tn, .inr (5, [.long (a0), .int (b0)])) :: (x, .inr (0, [.int (nI kd), .int (nI M), .int (nI (M + ckb kd M)), .long (lN (2 ^ M - 1)), .int (nI (2 ^ ckb kd M - 1)), .ref oc, .ref tn, .int (nI 1), .int (nI (fold a % 2 ^ ckb kd M)), .long (lN w1), .int (nI c1), .int (nI t1), .ref ac, .int (nI an), .int (lb), .ref sp, .int (nI su)])) :: (ac, .inl (g 0, 8, .inl (fa))) :: (sp, .inl (g 0, 8, .inl (fs))) :: (ou, .inl (g 1, 1, .inr (.inl (vp_updL fo 0 (lN ha))))) :: wr) H := hP
    have hD : va_D A ((tn, .inr (5, [.long (a0), .int (b0)])) :: (x, .inr (0, [.int (nI kd), .int (nI M), .int (nI (M + ckb kd M)), .long (lN (2 ^ M - 1)), .int (nI (2 ^ ckb kd M - 1)), .ref oc, .ref tn, .int (nI 1), .int (nI (fold a % 2 ^ ckb kd M)), .long (lN w1), .int (nI c1), .int (nI t1), .ref ac, .int (nI an), .int (lb), .ref sp, .int (nI su)])) :: (ac, .inl (g 0, 8, .inl (fa))) :: (sp, .inl (g 0, 8, .inl (fs))) :: (ou, .inl (g 1, 1, .inr (.inl (vp_updL fo 0 (lN ha))))) :: wr) := hD
    refine lv_goto (tgt := 22) hx hb d_W_address_16 (by decide) ?_
    refine lv_iconst (v := nI 0) hx hb d_W_address_22 (by decide) ?_
    rw [← hQ]
    refine W.iret (v := nI 0) hx hb hr ?_ hS.2.2 d_W_address_23
    exact fun t ht hW => ⟨⟨nI 0, (), rfl, rfl, by rw [ht]; exact hP, hD⟩, hS.F ht⟩
  · skip
    refine lv_lconst (v := lN 1) hx hb d_W_address_10 (by decide) ?_
    refine lv_goto (tgt := 15) hx hb d_W_address_11 (by decide) ?_
    refine lx_last (f' := vp_updL fo 0 (lN ha)) hx hb hK hP hD hS 4 1 rfl rfl (j := 0) (by omega) (by omega) (by rw [show ha = 1 by omega]) d_W_address_15 (fun H locs hP hD hS => ?_)
    have hP : va_P D vwCl ((tn, .inr (5, [.long (a0), .int (b0)])) :: (x, .inr (0, [.int (nI kd), .int (nI M), .int (nI (M + ckb kd M)), .long (lN (2 ^ M - 1)), .int (nI (2 ^ ckb kd M - 1)), .ref oc, .ref tn, .int (nI 1), .int (nI (fold a % 2 ^ ckb kd M)), .long (lN w1), .int (nI c1), .int (nI t1), .ref ac, .int (nI an), .int (lb), .ref sp, .int (nI su)])) :: (ac, .inl (g 0, 8, .inl (fa))) :: (sp, .inl (g 0, 8, .inl (fs))) :: (ou, .inl (g 1, 1, .inr (.inl (vp_updL fo 0 (lN ha))))) :: wr) H := hP
    have hD : va_D A ((tn, .inr (5, [.long (a0), .int (b0)])) :: (x, .inr (0, [.int (nI kd), .int (nI M), .int (nI (M + ckb kd M)), .long (lN (2 ^ M - 1)), .int (nI (2 ^ ckb kd M - 1)), .ref oc, .ref tn, .int (nI 1), .int (nI (fold a % 2 ^ ckb kd M)), .long (lN w1), .int (nI c1), .int (nI t1), .ref ac, .int (nI an), .int (lb), .ref sp, .int (nI su)])) :: (ac, .inl (g 0, 8, .inl (fa))) :: (sp, .inl (g 0, 8, .inl (fs))) :: (ou, .inl (g 1, 1, .inr (.inl (vp_updL fo 0 (lN ha))))) :: wr) := hD
    refine lv_goto (tgt := 22) hx hb d_W_address_16 (by decide) ?_
    refine lv_iconst (v := nI 0) hx hb d_W_address_22 (by decide) ?_
    rw [← hQ]
    refine W.iret (v := nI 0) hx hb hr ?_ hS.2.2 d_W_address_23
    exact fun t ht hW => ⟨⟨nI 0, (), rfl, rfl, by rw [ht]; exact hP, hD⟩, hS.F ht⟩
set_option maxHeartbeats 4000000 in
set_option maxRecDepth 100000 in
theorem u_W_address (l : Launch) (hlt : l.stackTraces = false) (D : va_G) (g : Nat → ClassId) (sz : Nat) (wr : va_W) (ou : Nat) (fo : Nat → Int64) (x tn ac sp oc kd M ha af w1 c1 t1 an su : Nat) (a0 : Int64) (b0 lb : Int32) (fa fs : Nat → Int32) (hM0 : 0 < M) (hM : M ≤ 57) (v : Int32) (hk9 : kd = 1 ∨ kd = 2) : Met l y_W_address w_W_address rt_W_address (va_Pc [.ref x, .int (v), .ref ou] (pPW D (tyl g) ((tn, .inr (5, [.long (a0), .int (b0)])) :: (x, .inr (0, [.int (nI kd), .int (nI M), .int (nI (M + ckb kd M)), .long (lN (2 ^ M - 1)), .int (nI (2 ^ ckb kd M - 1)), .ref oc, .ref tn, .int (nI ha), .int (nI af), .long (lN w1), .int (nI c1), .int (nI t1), .ref ac, .int (nI an), .int (lb), .ref sp, .int (nI su)])) :: (ac, .inl (g 0, 8, .inl (fa))) :: (sp, .inl (g 0, 8, .inl (fs))) :: (ou, .inl (g 1, 1, .inr (.inl (fo)))) :: wr) sz)) (va_Qi (fun (r : Int32) (u : Unit) => r = nI 1) (fun _ _ => True) (fun q : Nat => sz ≤ q)) 1 6 (fun q : Nat => sz ≤ q) := by
  refine va_MetW (cc := b_W_address) (maxL := 4) (ret := (some .int)) (hh := [(0, 16, 19, 15)]) (by decide +kernel) rfl ?_
  intro p e s m args below meth c s₁ Bq hml hv
  have hx := Bq.exec
  have hb := Bq.bytes
  have hr := Bq.returns
  have htab := tabW_of (hh := [(0, 16, 19, 15)]) Bq rfl
  have hts : ∀ w ∈ wA, w.before args s = true := fun w h => atoms_spec (ws := w_W_address) Bq.pre w (List.mem_cons_of_mem _ h)
  have hown : s.vm.findClass R_W = some m.cls := findClass_of_methodNamed Bq.named
  have hlocks := Bq.notSynchronized
  obtain ⟨rfl, ⟨hsz, hP, hKK, hD0⟩, hTN, hTS⟩ := hv
  have hK := hKK.1
  subst hsz
  have hD := hD0
  generalize hAe : (fun q : Nat => s.heap.size ≤ q) = A
  have hA : ∀ q : Nat, s.heap.size ≤ q → A q := fun q h => by rw [← hAe]; exact h
  have hS : va_S A s.heap s.heap [] := va_S.rf
  have hl := lv_entry ([.ref x, .int (v), .ref ou]) (n := 4) (Nat.le_of_ble_eq_true rfl)
  rw [lg_entry_eq]
  generalize (lg_sl ([.ref x, .int (v), .ref ou]) ++ List.replicate (4 - (lg_sl ([.ref x, .int (v), .ref ou])).length) Slot.unset).toArray = ls at hl ⊢
  have hl : lv_has ls 4 [(0, .ref x), (1, .int (v)), (2, .ref ou)] := hl
  generalize hQ : MQ below (va_Qi (fun (r : Int32) (u : Unit) => r = nI 1) (fun _ _ => True) (A)) [.ref x, .int (v), .ref ou].toArray s 1 6 A = Q
  have hRc : (headSpec w_W_address rt_W_address).room.cells = 1 := rfl
  have hRs : (headSpec w_W_address rt_W_address).room.slots = 6 := rfl
  refine lv_aload_n hx hb d_W_address_0 rfl (lv_at hl 2 rfl) ?_
  refine lv_iconst (v := nI 0) hx hb d_W_address_1 (by decide) ?_
  refine lv_aload_n hx hb d_W_address_2 rfl (lv_at hl 0 rfl) ?_
  refine lv_iload_n hx hb d_W_address_3 rfl (lv_at hl 1 rfl) ?_
  refine lt_cv1 (b := x) (As := [.int (v)]) (rest := [.int (nI 0), .ref ou]) ⟨hx, hb, hml, hown, hts⟩ (u_C_address l hlt D g _ ((ou, .inl (g 1, 1, .inr (.inl (fo)))) :: wr) x tn ac sp oc kd M ha af w1 c1 t1 an su a0 b0 lb fa fs hM0 hM v hk9) (kV 1 hts m_416 m_413 m_414 m_415 m_30 (by decide +kernel) ⟨Nat.le_of_ble_eq_true rfl, Nat.le_of_ble_eq_true rfl⟩) ⟨pPT_blind _ _ _ _ _, va_recv hK hP (ci := 0) (q0 := 1) rfl rfl, fun U hU hW => ⟨rfl, pPT_of hU hW hP hKK hD hTN.1 hTS⟩⟩ hS hA hl.1 rfl rfl (Nat.le_of_ble_eq_true rfl) d_W_address_4 ⟨Nat.le_of_ble_eq_true rfl, Nat.le_of_ble_eq_true rfl⟩ htab ⟨by decide, by decide⟩ (by decide) (hts _ m_312) (va_Nw.use rfl (hTN.1.2.1 exU (by simp))) (fun q9 H locs hS => ?_)
  refine lv_astore_n (lv' := [(3, .ref q9), (0, .ref x), (1, .int (v)), (2, .ref ou)]) hx hb d_W_address_19 rfl hl (by decide) rfl (fun ls hl => ?_)
  refine lv_iconst (v := nI 1) hx hb d_W_address_20 (by decide) ?_
  refine W.widen (k := 1) (n := 6) (by omega) (by omega) ?_
  rw [← hQ]
  refine W.iret (v := nI 1) hx hb hr ?_ hS.2.2 d_W_address_21
  exact fun t ht hW => ⟨⟨nI 1, (), rfl, rfl, trivial⟩, hS.F ht⟩
set_option maxHeartbeats 4000000 in
set_option maxRecDepth 100000 in
theorem c_W_read (l : Launch) (D : va_G) (g : Nat → ClassId) (sz : Nat) (wr : va_W) (ou : Nat) (fo : Nat → Int64) (x tn ac sp oc kd M ha af w1 c1 t1 an su : Nat) (a0 : Int64) (b0 lb : Int32) (fa fs : Nat → Int32) (hcw : CodeW g kd M oc wr) (hM0 : 0 < M) (hM : M ≤ 57) (v y : Nat) (hv : v < 2 ^ 64) (hy : y < 2 ^ ckb kd M) (haf : af < 2 ^ ckb kd M) : Met l y_W_read w_W_read rm_W_read (va_Pc [.ref x, .long (lN v), .int (nI y), .ref ou] (pP D (tyl g) ((tn, .inr (5, [.long (a0), .int (b0)])) :: (x, .inr (0, [.int (nI kd), .int (nI M), .int (nI (M + ckb kd M)), .long (lN (2 ^ M - 1)), .int (nI (2 ^ ckb kd M - 1)), .ref oc, .ref tn, .int (nI ha), .int (nI af), .long (lN w1), .int (nI c1), .int (nI t1), .ref ac, .int (nI an), .int (lb), .ref sp, .int (nI su)])) :: (ac, .inl (g 0, 8, .inl (fa))) :: (sp, .inl (g 0, 8, .inl (fs))) :: (ou, .inl (g 1, 1, .inr (.inl (fo)))) :: wr) sz)) (va_Qi (fun (r : Int32) (u : Unit) => r = nI 0) (fun u => qB D (va_A ((tn, .inr (5, [.long (a0), .int (b0)])) :: (x, .inr (0, [.int (nI kd), .int (nI M), .int (nI (M + ckb kd M)), .long (lN (2 ^ M - 1)), .int (nI (2 ^ ckb kd M - 1)), .ref oc, .ref tn, .int (nI ha), .int (nI af), .long (lN w1), .int (nI c1), .int (nI t1), .ref ac, .int (nI an), .int (lb), .ref sp, .int (nI su)])) :: (ac, .inl (g 0, 8, .inl (fa))) :: (sp, .inl (g 0, 8, .inl (fs))) :: (ou, .inl (g 1, 1, .inr (.inl (fo)))) :: wr) sz) ((tn, .inr (5, [.long (lN (jd kd M ((y ^^^ xs (mrk kd M) v M) ^^^ af)).2.1), .int (nI (jd kd M ((y ^^^ xs (mrk kd M) v M) ^^^ af)).2.2)])) :: (x, .inr (0, [.int (nI kd), .int (nI M), .int (nI (M + ckb kd M)), .long (lN (2 ^ M - 1)), .int (nI (2 ^ ckb kd M - 1)), .ref oc, .ref tn, .int (nI ha), .int (nI af), .long (lN (v % 2 ^ M ^^^ (jd kd M ((y ^^^ xs (mrk kd M) v M) ^^^ af)).2.1)), .int (nI (y ^^^ (jd kd M ((y ^^^ xs (mrk kd M) v M) ^^^ af)).2.2)), .int (nI (pcn 64 (jd kd M ((y ^^^ xs (mrk kd M) v M) ^^^ af)).2.1 + pcn 32 (jd kd M ((y ^^^ xs (mrk kd M) v M) ^^^ af)).2.2)), .ref ac, .int (nI an), .int (lb), .ref sp, .int (nI su)])) :: (ac, .inl (g 0, 8, .inl (fa))) :: (sp, .inl (g 0, 8, .inl (fs))) :: (ou, .inl (g 1, 1, .inr (.inl (vp_updL fo 0 ((nI (jd kd M ((y ^^^ xs (mrk kd M) v M) ^^^ af)).1).toInt64))))) :: wr)) (va_A ((tn, .inr (5, [.long (a0), .int (b0)])) :: (x, .inr (0, [.int (nI kd), .int (nI M), .int (nI (M + ckb kd M)), .long (lN (2 ^ M - 1)), .int (nI (2 ^ ckb kd M - 1)), .ref oc, .ref tn, .int (nI ha), .int (nI af), .long (lN w1), .int (nI c1), .int (nI t1), .ref ac, .int (nI an), .int (lb), .ref sp, .int (nI su)])) :: (ac, .inl (g 0, 8, .inl (fa))) :: (sp, .inl (g 0, 8, .inl (fs))) :: (ou, .inl (g 1, 1, .inr (.inl (fo)))) :: wr) sz)) 0 0 (va_A ((tn, .inr (5, [.long (a0), .int (b0)])) :: (x, .inr (0, [.int (nI kd), .int (nI M), .int (nI (M + ckb kd M)), .long (lN (2 ^ M - 1)), .int (nI (2 ^ ckb kd M - 1)), .ref oc, .ref tn, .int (nI ha), .int (nI af), .long (lN w1), .int (nI c1), .int (nI t1), .ref ac, .int (nI an), .int (lb), .ref sp, .int (nI su)])) :: (ac, .inl (g 0, 8, .inl (fa))) :: (sp, .inl (g 0, 8, .inl (fs))) :: (ou, .inl (g 1, 1, .inr (.inl (fo)))) :: wr) sz) := by
  refine va_MetW (cc := b_W_read) (maxL := 6) (ret := (some .int)) (hh := [(0, 11, 14, 25)]) (by decide +kernel) rfl ?_
  intro p e s m args below meth c s₁ Bq hml hv
  have hx := Bq.exec
  have hb := Bq.bytes
  have hr := Bq.returns
  have htab := tabW_of (hh := [(0, 11, 14, 25)]) Bq rfl
  have hts : ∀ w ∈ wA, w.before args s = true := fun w h => atoms_spec (ws := w_W_read) Bq.pre w (List.mem_cons_of_mem _ h)
  have hown : s.vm.findClass R_W = some m.cls := findClass_of_methodNamed Bq.named
  have hlocks := Bq.notSynchronized
  obtain ⟨rfl, hsz, hP, hKK, hD0⟩ := hv
  have hK := hKK.1
  subst hsz
  have hD := hD0.self (sz := s.heap.size)
  generalize hAe : va_A ((tn, .inr (5, [.long (a0), .int (b0)])) :: (x, .inr (0, [.int (nI kd), .int (nI M), .int (nI (M + ckb kd M)), .long (lN (2 ^ M - 1)), .int (nI (2 ^ ckb kd M - 1)), .ref oc, .ref tn, .int (nI ha), .int (nI af), .long (lN w1), .int (nI c1), .int (nI t1), .ref ac, .int (nI an), .int (lb), .ref sp, .int (nI su)])) :: (ac, .inl (g 0, 8, .inl (fa))) :: (sp, .inl (g 0, 8, .inl (fs))) :: (ou, .inl (g 1, 1, .inr (.inl (fo)))) :: wr) s.heap.size = A at hD ⊢
  have hA : ∀ q : Nat, s.heap.size ≤ q → A q := fun q h => by rw [← hAe]; exact Or.inr h
  have hS : va_S A s.heap s.heap [] := va_S.rf
  have hl := lv_entry ([.ref x, .long (lN v), .int (nI y), .ref ou]) (n := 6) (Nat.le_of_ble_eq_true rfl)
  rw [lg_entry_eq]
  generalize (lg_sl ([.ref x, .long (lN v), .int (nI y), .ref ou]) ++ List.replicate (6 - (lg_sl ([.ref x, .long (lN v), .int (nI y), .ref ou])).length) Slot.unset).toArray = ls at hl ⊢
  have hl : lv_has ls 6 [(0, .ref x), (1, .long (lN v)), (3, .int (nI y)), (4, .ref ou)] := hl
  generalize hQ : MQ below (va_Qi (fun (r : Int32) (u : Unit) => r = nI 0) (fun u => qB D (A) ((tn, .inr (5, [.long (lN (jd kd M ((y ^^^ xs (mrk kd M) v M) ^^^ af)).2.1), .int (nI (jd kd M ((y ^^^ xs (mrk kd M) v M) ^^^ af)).2.2)])) :: (x, .inr (0, [.int (nI kd), .int (nI M), .int (nI (M + ckb kd M)), .long (lN (2 ^ M - 1)), .int (nI (2 ^ ckb kd M - 1)), .ref oc, .ref tn, .int (nI ha), .int (nI af), .long (lN (v % 2 ^ M ^^^ (jd kd M ((y ^^^ xs (mrk kd M) v M) ^^^ af)).2.1)), .int (nI (y ^^^ (jd kd M ((y ^^^ xs (mrk kd M) v M) ^^^ af)).2.2)), .int (nI (pcn 64 (jd kd M ((y ^^^ xs (mrk kd M) v M) ^^^ af)).2.1 + pcn 32 (jd kd M ((y ^^^ xs (mrk kd M) v M) ^^^ af)).2.2)), .ref ac, .int (nI an), .int (lb), .ref sp, .int (nI su)])) :: (ac, .inl (g 0, 8, .inl (fa))) :: (sp, .inl (g 0, 8, .inl (fs))) :: (ou, .inl (g 1, 1, .inr (.inl (vp_updL fo 0 ((nI (jd kd M ((y ^^^ xs (mrk kd M) v M) ^^^ af)).1).toInt64))))) :: wr)) (A)) [.ref x, .long (lN v), .int (nI y), .ref ou].toArray s 0 0 A = Q
  refine lv_aload hx hb d_W_read_0 (lv_at hl 3 rfl) ?_
  refine lv_iconst (v := nI 0) hx hb d_W_read_2 (by decide) ?_
  refine lv_aload_n hx hb d_W_read_3 rfl (lv_at hl 0 rfl) ?_
  refine lv_lload_n hx hb d_W_read_4 rfl (lv_at hl 1 rfl) ?_
  refine lv_iload_n hx hb d_W_read_5 rfl (lv_at hl 2 rfl) ?_
  refine lc_Vi (b := x) (As := [.long (lN v), .int (nI y)]) (rest := [.int (nI 0), .ref ou]) ⟨hx, hb, hml, hown, hts⟩ (c_C_read l D g _ ((ou, .inl (g 1, 1, .inr (.inl (fo)))) :: wr) x tn ac sp oc kd M ha af w1 c1 t1 an su a0 b0 lb fa fs (hcw.cons _) hM0 hM v y hv hy haf) (kV 2 hts m_429 m_426 m_427 m_428 m_30 (by decide +kernel) ⟨Nat.le_of_ble_eq_true rfl, Nat.le_of_ble_eq_true rfl⟩) (va_recv hK hP (ci := 0) (q0 := 1) rfl rfl) hKK hP hD hS hA hl.1 rfl rfl (Nat.le_of_ble_eq_true rfl) d_W_read_6 ⟨Nat.le_of_ble_eq_true rfl, Nat.le_of_ble_eq_true rfl⟩ (fun rr u H locs er hP hD hS => ?_)
  have hP : va_P D vwCl ((tn, .inr (5, [.long (lN (jd kd M ((y ^^^ xs (mrk kd M) v M) ^^^ af)).2.1), .int (nI (jd kd M ((y ^^^ xs (mrk kd M) v M) ^^^ af)).2.2)])) :: (x, .inr (0, [.int (nI kd), .int (nI M), .int (nI (M + ckb kd M)), .long (lN (2 ^ M - 1)), .int (nI (2 ^ ckb kd M - 1)), .ref oc, .ref tn, .int (nI ha), .int (nI af), .long (lN (v % 2 ^ M ^^^ (jd kd M ((y ^^^ xs (mrk kd M) v M) ^^^ af)).2.1)), .int (nI (y ^^^ (jd kd M ((y ^^^ xs (mrk kd M) v M) ^^^ af)).2.2)), .int (nI (pcn 64 (jd kd M ((y ^^^ xs (mrk kd M) v M) ^^^ af)).2.1 + pcn 32 (jd kd M ((y ^^^ xs (mrk kd M) v M) ^^^ af)).2.2)), .ref ac, .int (nI an), .int (lb), .ref sp, .int (nI su)])) :: (ac, .inl (g 0, 8, .inl (fa))) :: (sp, .inl (g 0, 8, .inl (fs))) :: (ou, .inl (g 1, 1, .inr (.inl (fo)))) :: wr) H := hP
  have hD : va_D A ((tn, .inr (5, [.long (lN (jd kd M ((y ^^^ xs (mrk kd M) v M) ^^^ af)).2.1), .int (nI (jd kd M ((y ^^^ xs (mrk kd M) v M) ^^^ af)).2.2)])) :: (x, .inr (0, [.int (nI kd), .int (nI M), .int (nI (M + ckb kd M)), .long (lN (2 ^ M - 1)), .int (nI (2 ^ ckb kd M - 1)), .ref oc, .ref tn, .int (nI ha), .int (nI af), .long (lN (v % 2 ^ M ^^^ (jd kd M ((y ^^^ xs (mrk kd M) v M) ^^^ af)).2.1)), .int (nI (y ^^^ (jd kd M ((y ^^^ xs (mrk kd M) v M) ^^^ af)).2.2)), .int (nI (pcn 64 (jd kd M ((y ^^^ xs (mrk kd M) v M) ^^^ af)).2.1 + pcn 32 (jd kd M ((y ^^^ xs (mrk kd M) v M) ^^^ af)).2.2)), .ref ac, .int (nI an), .int (lb), .ref sp, .int (nI su)])) :: (ac, .inl (g 0, 8, .inl (fa))) :: (sp, .inl (g 0, 8, .inl (fs))) :: (ou, .inl (g 1, 1, .inr (.inl (fo)))) :: wr) := hD
  obtain rfl : rr = nI (jd kd M ((y ^^^ xs (mrk kd M) v M) ^^^ af)).1 := er
  refine lv_i2l (v := (nI (jd kd M ((y ^^^ xs (mrk kd M) v M) ^^^ af)).1).toInt64) hx hb d_W_read_9 (rfl) ?_
  refine lx_last (f' := vp_updL fo 0 ((nI (jd kd M ((y ^^^ xs (mrk kd M) v M) ^^^ af)).1).toInt64)) hx hb hK hP hD hS 4 1 rfl rfl (j := 0) (by omega) (by omega) (rfl) d_W_read_10 (fun H locs hP hD hS => ?_)
  have hP : va_P D vwCl ((tn, .inr (5, [.long (lN (jd kd M ((y ^^^ xs (mrk kd M) v M) ^^^ af)).2.1), .int (nI (jd kd M ((y ^^^ xs (mrk kd M) v M) ^^^ af)).2.2)])) :: (x, .inr (0, [.int (nI kd), .int (nI M), .int (nI (M + ckb kd M)), .long (lN (2 ^ M - 1)), .int (nI (2 ^ ckb kd M - 1)), .ref oc, .ref tn, .int (nI ha), .int (nI af), .long (lN (v % 2 ^ M ^^^ (jd kd M ((y ^^^ xs (mrk kd M) v M) ^^^ af)).2.1)), .int (nI (y ^^^ (jd kd M ((y ^^^ xs (mrk kd M) v M) ^^^ af)).2.2)), .int (nI (pcn 64 (jd kd M ((y ^^^ xs (mrk kd M) v M) ^^^ af)).2.1 + pcn 32 (jd kd M ((y ^^^ xs (mrk kd M) v M) ^^^ af)).2.2)), .ref ac, .int (nI an), .int (lb), .ref sp, .int (nI su)])) :: (ac, .inl (g 0, 8, .inl (fa))) :: (sp, .inl (g 0, 8, .inl (fs))) :: (ou, .inl (g 1, 1, .inr (.inl (vp_updL fo 0 ((nI (jd kd M ((y ^^^ xs (mrk kd M) v M) ^^^ af)).1).toInt64))))) :: wr) H := hP
  have hD : va_D A ((tn, .inr (5, [.long (lN (jd kd M ((y ^^^ xs (mrk kd M) v M) ^^^ af)).2.1), .int (nI (jd kd M ((y ^^^ xs (mrk kd M) v M) ^^^ af)).2.2)])) :: (x, .inr (0, [.int (nI kd), .int (nI M), .int (nI (M + ckb kd M)), .long (lN (2 ^ M - 1)), .int (nI (2 ^ ckb kd M - 1)), .ref oc, .ref tn, .int (nI ha), .int (nI af), .long (lN (v % 2 ^ M ^^^ (jd kd M ((y ^^^ xs (mrk kd M) v M) ^^^ af)).2.1)), .int (nI (y ^^^ (jd kd M ((y ^^^ xs (mrk kd M) v M) ^^^ af)).2.2)), .int (nI (pcn 64 (jd kd M ((y ^^^ xs (mrk kd M) v M) ^^^ af)).2.1 + pcn 32 (jd kd M ((y ^^^ xs (mrk kd M) v M) ^^^ af)).2.2)), .ref ac, .int (nI an), .int (lb), .ref sp, .int (nI su)])) :: (ac, .inl (g 0, 8, .inl (fa))) :: (sp, .inl (g 0, 8, .inl (fs))) :: (ou, .inl (g 1, 1, .inr (.inl (vp_updL fo 0 ((nI (jd kd M ((y ^^^ xs (mrk kd M) v M) ^^^ af)).1).toInt64))))) :: wr) := hD
  refine lv_goto (tgt := 18) hx hb d_W_read_11 (by decide) ?_
  refine lv_iconst (v := nI 0) hx hb d_W_read_18 (by decide) ?_
  rw [← hQ]
  refine W.iret (v := nI 0) hx hb hr ?_ hS.2.2 d_W_read_19
  exact fun t ht hW => ⟨⟨nI 0, (), rfl, rfl, by rw [ht]; exact hP, hD⟩, hS.F ht⟩
set_option maxHeartbeats 4000000 in
set_option maxRecDepth 100000 in
theorem t_W_read (l : Launch) (hlt : l.stackTraces = false) (D : va_G) (g : Nat → ClassId) (sz : Nat) (wr : va_W) (ou : Nat) (fo : Nat → Int64) (x tn ac sp oc kd M ha af w1 c1 t1 an su : Nat) (a0 : Int64) (b0 lb : Int32) (fa fs : Nat → Int32) (hM0 : 0 < M) (hM : M ≤ 57) (wv : Int64) (y : Nat) (hy : y < 2 ^ 32) (hy9 : 2 ^ ckb kd M ≤ y) : Met l y_W_read w_W_read rt_W_read (va_Pc [.ref x, .long (wv), .int (nI y), .ref ou] (pPW D (tyl g) ((tn, .inr (5, [.long (a0), .int (b0)])) :: (x, .inr (0, [.int (nI kd), .int (nI M), .int (nI (M + ckb kd M)), .long (lN (2 ^ M - 1)), .int (nI (2 ^ ckb kd M - 1)), .ref oc, .ref tn, .int (nI ha), .int (nI af), .long (lN w1), .int (nI c1), .int (nI t1), .ref ac, .int (nI an), .int (lb), .ref sp, .int (nI su)])) :: (ac, .inl (g 0, 8, .inl (fa))) :: (sp, .inl (g 0, 8, .inl (fs))) :: (ou, .inl (g 1, 1, .inr (.inl (fo)))) :: wr) sz)) (va_Qi (fun (r : Int32) (u : Unit) => r = nI 1) (fun _ _ => True) (fun q : Nat => sz ≤ q)) 1 6 (fun q : Nat => sz ≤ q) := by
  refine va_MetW (cc := b_W_read) (maxL := 6) (ret := (some .int)) (hh := [(0, 11, 14, 25)]) (by decide +kernel) rfl ?_
  intro p e s m args below meth c s₁ Bq hml hv
  have hx := Bq.exec
  have hb := Bq.bytes
  have hr := Bq.returns
  have htab := tabW_of (hh := [(0, 11, 14, 25)]) Bq rfl
  have hts : ∀ w ∈ wA, w.before args s = true := fun w h => atoms_spec (ws := w_W_read) Bq.pre w (List.mem_cons_of_mem _ h)
  have hown : s.vm.findClass R_W = some m.cls := findClass_of_methodNamed Bq.named
  have hlocks := Bq.notSynchronized
  obtain ⟨rfl, ⟨hsz, hP, hKK, hD0⟩, hTN, hTS⟩ := hv
  have hK := hKK.1
  subst hsz
  have hD := hD0
  generalize hAe : (fun q : Nat => s.heap.size ≤ q) = A
  have hA : ∀ q : Nat, s.heap.size ≤ q → A q := fun q h => by rw [← hAe]; exact h
  have hS : va_S A s.heap s.heap [] := va_S.rf
  have hl := lv_entry ([.ref x, .long (wv), .int (nI y), .ref ou]) (n := 6) (Nat.le_of_ble_eq_true rfl)
  rw [lg_entry_eq]
  generalize (lg_sl ([.ref x, .long (wv), .int (nI y), .ref ou]) ++ List.replicate (6 - (lg_sl ([.ref x, .long (wv), .int (nI y), .ref ou])).length) Slot.unset).toArray = ls at hl ⊢
  have hl : lv_has ls 6 [(0, .ref x), (1, .long (wv)), (3, .int (nI y)), (4, .ref ou)] := hl
  generalize hQ : MQ below (va_Qi (fun (r : Int32) (u : Unit) => r = nI 1) (fun _ _ => True) (A)) [.ref x, .long (wv), .int (nI y), .ref ou].toArray s 1 6 A = Q
  have hRc : (headSpec w_W_read rt_W_read).room.cells = 1 := rfl
  have hRs : (headSpec w_W_read rt_W_read).room.slots = 6 := rfl
  refine lv_aload hx hb d_W_read_0 (lv_at hl 3 rfl) ?_
  refine lv_iconst (v := nI 0) hx hb d_W_read_2 (by decide) ?_
  refine lv_aload_n hx hb d_W_read_3 rfl (lv_at hl 0 rfl) ?_
  refine lv_lload_n hx hb d_W_read_4 rfl (lv_at hl 1 rfl) ?_
  refine lv_iload_n hx hb d_W_read_5 rfl (lv_at hl 2 rfl) ?_
  refine lt_cv1 (b := x) (As := [.long (wv), .int (nI y)]) (rest := [.int (nI 0), .ref ou]) ⟨hx, hb, hml, hown, hts⟩ (t_C_read l hlt D g _ ((ou, .inl (g 1, 1, .inr (.inl (fo)))) :: wr) x tn ac sp oc kd M ha af w1 c1 t1 an su a0 b0 lb fa fs hM0 hM wv y hy hy9) (kV 2 hts m_429 m_426 m_427 m_428 m_30 (by decide +kernel) ⟨Nat.le_of_ble_eq_true rfl, Nat.le_of_ble_eq_true rfl⟩) ⟨pPT_blind _ _ _ _ _, va_recv hK hP (ci := 0) (q0 := 1) rfl rfl, fun U hU hW => ⟨rfl, pPT_of hU hW hP hKK hD hTN.1 hTS⟩⟩ hS hA hl.1 rfl rfl (Nat.le_of_ble_eq_true rfl) d_W_read_6 ⟨Nat.le_of_ble_eq_true rfl, Nat.le_of_ble_eq_true rfl⟩ htab ⟨by decide, by decide⟩ (by decide) (hts _ m_425) (va_Nw.use rfl (hTN.1.2.1 exA (by simp))) (fun q9 H locs hS => ?_)
  refine lv_astore (lv' := [(5, .ref q9), (0, .ref x), (1, .long (wv)), (3, .int (nI y)), (4, .ref ou)]) hx hb d_W_read_14 hl (by decide) rfl (fun ls hl => ?_)
  refine lv_iconst (v := nI 1) hx hb d_W_read_16 (by decide) ?_
  refine W.widen (k := 1) (n := 6) (by omega) (by omega) ?_
  rw [← hQ]
  refine W.iret (v := nI 1) hx hb hr ?_ hS.2.2 d_W_read_17
  exact fun t ht hW => ⟨⟨nI 1, (), rfl, rfl, trivial⟩, hS.F ht⟩
set_option maxHeartbeats 4000000 in
set_option maxRecDepth 100000 in
theorem c_W_flips (l : Launch) (D : va_G) (g : Nat → ClassId) (sz : Nat) (wr : va_W) (ou : Nat) (fo : Nat → Int64) (x tn ac sp oc kd M ha af w1 c1 t1 an su : Nat) (a0 : Int64) (b0 lb : Int32) (fa fs : Nat → Int32) (hcw : CodeW g kd M oc wr) (hM0 : 0 < M) (hM : M ≤ 57) (a b : Nat) (ha9 : a < M + ckb kd M) (hb9 : b < M + ckb kd M) : Met l y_W_flips w_W_flips rm_W_flips (va_Pc [.ref x, .int (nI a), .int (nI b), .ref ou] (pP D (tyl g) ((tn, .inr (5, [.long (a0), .int (b0)])) :: (x, .inr (0, [.int (nI kd), .int (nI M), .int (nI (M + ckb kd M)), .long (lN (2 ^ M - 1)), .int (nI (2 ^ ckb kd M - 1)), .ref oc, .ref tn, .int (nI ha), .int (nI af), .long (lN w1), .int (nI c1), .int (nI t1), .ref ac, .int (nI an), .int (lb), .ref sp, .int (nI su)])) :: (ac, .inl (g 0, 8, .inl (fa))) :: (sp, .inl (g 0, 8, .inl (fs))) :: (ou, .inl (g 1, 1, .inr (.inl (fo)))) :: wr) sz)) (va_Qi (fun (r : Int32) (u : (Int64 × Int32)) => r = nI 0) (fun u => qB D (va_A ((tn, .inr (5, [.long (a0), .int (b0)])) :: (x, .inr (0, [.int (nI kd), .int (nI M), .int (nI (M + ckb kd M)), .long (lN (2 ^ M - 1)), .int (nI (2 ^ ckb kd M - 1)), .ref oc, .ref tn, .int (nI ha), .int (nI af), .long (lN w1), .int (nI c1), .int (nI t1), .ref ac, .int (nI an), .int (lb), .ref sp, .int (nI su)])) :: (ac, .inl (g 0, 8, .inl (fa))) :: (sp, .inl (g 0, 8, .inl (fs))) :: (ou, .inl (g 1, 1, .inr (.inl (fo)))) :: wr) sz) ((tn, .inr (5, [.long (u.1), .int (u.2)])) :: (x, .inr (0, [.int (nI kd), .int (nI M), .int (nI (M + ckb kd M)), .long (lN (2 ^ M - 1)), .int (nI (2 ^ ckb kd M - 1)), .ref oc, .ref tn, .int (nI ha), .int (nI af), .long (lN w1), .int (nI c1), .int (nI t1), .ref ac, .int (nI an), .int (lb), .ref sp, .int (nI su)])) :: (ac, .inl (g 0, 8, .inl (fa))) :: (sp, .inl (g 0, 8, .inl (fs))) :: (ou, .inl (g 1, 1, .inr (.inl (vp_updL fo 0 ((nI (pairA kd M a b)).toInt64))))) :: wr)) (va_A ((tn, .inr (5, [.long (a0), .int (b0)])) :: (x, .inr (0, [.int (nI kd), .int (nI M), .int (nI (M + ckb kd M)), .long (lN (2 ^ M - 1)), .int (nI (2 ^ ckb kd M - 1)), .ref oc, .ref tn, .int (nI ha), .int (nI af), .long (lN w1), .int (nI c1), .int (nI t1), .ref ac, .int (nI an), .int (lb), .ref sp, .int (nI su)])) :: (ac, .inl (g 0, 8, .inl (fa))) :: (sp, .inl (g 0, 8, .inl (fs))) :: (ou, .inl (g 1, 1, .inr (.inl (fo)))) :: wr) sz)) 0 0 (va_A ((tn, .inr (5, [.long (a0), .int (b0)])) :: (x, .inr (0, [.int (nI kd), .int (nI M), .int (nI (M + ckb kd M)), .long (lN (2 ^ M - 1)), .int (nI (2 ^ ckb kd M - 1)), .ref oc, .ref tn, .int (nI ha), .int (nI af), .long (lN w1), .int (nI c1), .int (nI t1), .ref ac, .int (nI an), .int (lb), .ref sp, .int (nI su)])) :: (ac, .inl (g 0, 8, .inl (fa))) :: (sp, .inl (g 0, 8, .inl (fs))) :: (ou, .inl (g 1, 1, .inr (.inl (fo)))) :: wr) sz) := by
  refine va_MetW (cc := b_W_flips) (maxL := 5) (ret := (some .int)) (hh := [(0, 10, 13, 13)]) (by decide +kernel) rfl ?_
  intro p e s m args below meth c s₁ Bq hml hv
  have hx := Bq.exec
  have hb := Bq.bytes
  have hr := Bq.returns
  have htab := tabW_of (hh := [(0, 10, 13, 13)]) Bq rfl
  have hts : ∀ w ∈ wA, w.before args s = true := fun w h => atoms_spec (ws := w_W_flips) Bq.pre w (List.mem_cons_of_mem _ h)
  have hown : s.vm.findClass R_W = some m.cls := findClass_of_methodNamed Bq.named
  have hlocks := Bq.notSynchronized
  obtain ⟨rfl, hsz, hP, hKK, hD0⟩ := hv
  have hK := hKK.1
  subst hsz
  have hD := hD0.self (sz := s.heap.size)
  generalize hAe : va_A ((tn, .inr (5, [.long (a0), .int (b0)])) :: (x, .inr (0, [.int (nI kd), .int (nI M), .int (nI (M + ckb kd M)), .long (lN (2 ^ M - 1)), .int (nI (2 ^ ckb kd M - 1)), .ref oc, .ref tn, .int (nI ha), .int (nI af), .long (lN w1), .int (nI c1), .int (nI t1), .ref ac, .int (nI an), .int (lb), .ref sp, .int (nI su)])) :: (ac, .inl (g 0, 8, .inl (fa))) :: (sp, .inl (g 0, 8, .inl (fs))) :: (ou, .inl (g 1, 1, .inr (.inl (fo)))) :: wr) s.heap.size = A at hD ⊢
  have hA : ∀ q : Nat, s.heap.size ≤ q → A q := fun q h => by rw [← hAe]; exact Or.inr h
  have hS : va_S A s.heap s.heap [] := va_S.rf
  have hl := lv_entry ([.ref x, .int (nI a), .int (nI b), .ref ou]) (n := 5) (Nat.le_of_ble_eq_true rfl)
  rw [lg_entry_eq]
  generalize (lg_sl ([.ref x, .int (nI a), .int (nI b), .ref ou]) ++ List.replicate (5 - (lg_sl ([.ref x, .int (nI a), .int (nI b), .ref ou])).length) Slot.unset).toArray = ls at hl ⊢
  have hl : lv_has ls 5 [(0, .ref x), (1, .int (nI a)), (2, .int (nI b)), (3, .ref ou)] := hl
  generalize hQ : MQ below (va_Qi (fun (r : Int32) (u : (Int64 × Int32)) => r = nI 0) (fun u => qB D (A) ((tn, .inr (5, [.long (u.1), .int (u.2)])) :: (x, .inr (0, [.int (nI kd), .int (nI M), .int (nI (M + ckb kd M)), .long (lN (2 ^ M - 1)), .int (nI (2 ^ ckb kd M - 1)), .ref oc, .ref tn, .int (nI ha), .int (nI af), .long (lN w1), .int (nI c1), .int (nI t1), .ref ac, .int (nI an), .int (lb), .ref sp, .int (nI su)])) :: (ac, .inl (g 0, 8, .inl (fa))) :: (sp, .inl (g 0, 8, .inl (fs))) :: (ou, .inl (g 1, 1, .inr (.inl (vp_updL fo 0 ((nI (pairA kd M a b)).toInt64))))) :: wr)) (A)) [.ref x, .int (nI a), .int (nI b), .ref ou].toArray s 0 0 A = Q
  refine lv_aload_n hx hb d_W_flips_0 rfl (lv_at hl 3 rfl) ?_
  refine lv_iconst (v := nI 0) hx hb d_W_flips_1 (by decide) ?_
  refine lv_aload_n hx hb d_W_flips_2 rfl (lv_at hl 0 rfl) ?_
  refine lv_iload_n hx hb d_W_flips_3 rfl (lv_at hl 1 rfl) ?_
  refine lv_iload_n hx hb d_W_flips_4 rfl (lv_at hl 2 rfl) ?_
  refine lc_Vi (b := x) (As := [.int (nI a), .int (nI b)]) (rest := [.int (nI 0), .ref ou]) ⟨hx, hb, hml, hown, hts⟩ (c_C_flips l D g _ ((ou, .inl (g 1, 1, .inr (.inl (fo)))) :: wr) x tn ac sp oc kd M ha af w1 c1 t1 an su a0 b0 lb fa fs (hcw.cons _) hM0 hM a b ha9 hb9) (kV 2 hts m_485 m_482 m_483 m_484 m_30 (by decide +kernel) ⟨Nat.le_of_ble_eq_true rfl, Nat.le_of_ble_eq_true rfl⟩) (va_recv hK hP (ci := 0) (q0 := 1) rfl rfl) hKK hP hD hS hA hl.1 rfl rfl (Nat.le_of_ble_eq_true rfl) d_W_flips_5 ⟨Nat.le_of_ble_eq_true rfl, Nat.le_of_ble_eq_true rfl⟩ (fun rr u H locs er hP hD hS => ?_)
  have hP : va_P D vwCl ((tn, .inr (5, [.long (u.1), .int (u.2)])) :: (x, .inr (0, [.int (nI kd), .int (nI M), .int (nI (M + ckb kd M)), .long (lN (2 ^ M - 1)), .int (nI (2 ^ ckb kd M - 1)), .ref oc, .ref tn, .int (nI ha), .int (nI af), .long (lN w1), .int (nI c1), .int (nI t1), .ref ac, .int (nI an), .int (lb), .ref sp, .int (nI su)])) :: (ac, .inl (g 0, 8, .inl (fa))) :: (sp, .inl (g 0, 8, .inl (fs))) :: (ou, .inl (g 1, 1, .inr (.inl (fo)))) :: wr) H := hP
  have hD : va_D A ((tn, .inr (5, [.long (u.1), .int (u.2)])) :: (x, .inr (0, [.int (nI kd), .int (nI M), .int (nI (M + ckb kd M)), .long (lN (2 ^ M - 1)), .int (nI (2 ^ ckb kd M - 1)), .ref oc, .ref tn, .int (nI ha), .int (nI af), .long (lN w1), .int (nI c1), .int (nI t1), .ref ac, .int (nI an), .int (lb), .ref sp, .int (nI su)])) :: (ac, .inl (g 0, 8, .inl (fa))) :: (sp, .inl (g 0, 8, .inl (fs))) :: (ou, .inl (g 1, 1, .inr (.inl (fo)))) :: wr) := hD
  obtain rfl : rr = nI (pairA kd M a b) := er
  refine lv_i2l (v := (nI (pairA kd M a b)).toInt64) hx hb d_W_flips_8 (rfl) ?_
  refine lx_last (f' := vp_updL fo 0 ((nI (pairA kd M a b)).toInt64)) hx hb hK hP hD hS 4 1 rfl rfl (j := 0) (by omega) (by omega) (rfl) d_W_flips_9 (fun H locs hP hD hS => ?_)
  have hP : va_P D vwCl ((tn, .inr (5, [.long (u.1), .int (u.2)])) :: (x, .inr (0, [.int (nI kd), .int (nI M), .int (nI (M + ckb kd M)), .long (lN (2 ^ M - 1)), .int (nI (2 ^ ckb kd M - 1)), .ref oc, .ref tn, .int (nI ha), .int (nI af), .long (lN w1), .int (nI c1), .int (nI t1), .ref ac, .int (nI an), .int (lb), .ref sp, .int (nI su)])) :: (ac, .inl (g 0, 8, .inl (fa))) :: (sp, .inl (g 0, 8, .inl (fs))) :: (ou, .inl (g 1, 1, .inr (.inl (vp_updL fo 0 ((nI (pairA kd M a b)).toInt64))))) :: wr) H := hP
  have hD : va_D A ((tn, .inr (5, [.long (u.1), .int (u.2)])) :: (x, .inr (0, [.int (nI kd), .int (nI M), .int (nI (M + ckb kd M)), .long (lN (2 ^ M - 1)), .int (nI (2 ^ ckb kd M - 1)), .ref oc, .ref tn, .int (nI ha), .int (nI af), .long (lN w1), .int (nI c1), .int (nI t1), .ref ac, .int (nI an), .int (lb), .ref sp, .int (nI su)])) :: (ac, .inl (g 0, 8, .inl (fa))) :: (sp, .inl (g 0, 8, .inl (fs))) :: (ou, .inl (g 1, 1, .inr (.inl (vp_updL fo 0 ((nI (pairA kd M a b)).toInt64))))) :: wr) := hD
  refine lv_goto (tgt := 17) hx hb d_W_flips_10 (by decide) ?_
  refine lv_iconst (v := nI 0) hx hb d_W_flips_17 (by decide) ?_
  rw [← hQ]
  refine W.iret (v := nI 0) hx hb hr ?_ hS.2.2 d_W_flips_18
  exact fun t ht hW => ⟨⟨nI 0, u, rfl, rfl, by rw [ht]; exact hP, hD⟩, hS.F ht⟩
set_option maxHeartbeats 4000000 in
set_option maxRecDepth 100000 in
theorem t_W_flips (l : Launch) (hlt : l.stackTraces = false) (D : va_G) (g : Nat → ClassId) (sz : Nat) (wr : va_W) (ou : Nat) (fo : Nat → Int64) (x tn ac sp oc kd M ha af w1 c1 t1 an su : Nat) (a0 : Int64) (b0 lb : Int32) (fa fs : Nat → Int32) (hM0 : 0 < M) (hM : M ≤ 57) (v v2 : Int32) (hv9 : inBb (M + ckb kd M) v = 0 ∨ inBb (M + ckb kd M) v2 = 0) : Met l y_W_flips w_W_flips rt_W_flips (va_Pc [.ref x, .int (v), .int (v2), .ref ou] (pPW D (tyl g) ((tn, .inr (5, [.long (a0), .int (b0)])) :: (x, .inr (0, [.int (nI kd), .int (nI M), .int (nI (M + ckb kd M)), .long (lN (2 ^ M - 1)), .int (nI (2 ^ ckb kd M - 1)), .ref oc, .ref tn, .int (nI ha), .int (nI af), .long (lN w1), .int (nI c1), .int (nI t1), .ref ac, .int (nI an), .int (lb), .ref sp, .int (nI su)])) :: (ac, .inl (g 0, 8, .inl (fa))) :: (sp, .inl (g 0, 8, .inl (fs))) :: (ou, .inl (g 1, 1, .inr (.inl (fo)))) :: wr) sz)) (va_Qi (fun (r : Int32) (u : Unit) => r = nI 1) (fun _ _ => True) (fun q : Nat => sz ≤ q)) 1 6 (fun q : Nat => sz ≤ q) := by
  refine va_MetW (cc := b_W_flips) (maxL := 5) (ret := (some .int)) (hh := [(0, 10, 13, 13)]) (by decide +kernel) rfl ?_
  intro p e s m args below meth c s₁ Bq hml hv
  have hx := Bq.exec
  have hb := Bq.bytes
  have hr := Bq.returns
  have htab := tabW_of (hh := [(0, 10, 13, 13)]) Bq rfl
  have hts : ∀ w ∈ wA, w.before args s = true := fun w h => atoms_spec (ws := w_W_flips) Bq.pre w (List.mem_cons_of_mem _ h)
  have hown : s.vm.findClass R_W = some m.cls := findClass_of_methodNamed Bq.named
  have hlocks := Bq.notSynchronized
  obtain ⟨rfl, ⟨hsz, hP, hKK, hD0⟩, hTN, hTS⟩ := hv
  have hK := hKK.1
  subst hsz
  have hD := hD0
  generalize hAe : (fun q : Nat => s.heap.size ≤ q) = A
  have hA : ∀ q : Nat, s.heap.size ≤ q → A q := fun q h => by rw [← hAe]; exact h
  have hS : va_S A s.heap s.heap [] := va_S.rf
  have hl := lv_entry ([.ref x, .int (v), .int (v2), .ref ou]) (n := 5) (Nat.le_of_ble_eq_true rfl)
  rw [lg_entry_eq]
  generalize (lg_sl ([.ref x, .int (v), .int (v2), .ref ou]) ++ List.replicate (5 - (lg_sl ([.ref x, .int (v), .int (v2), .ref ou])).length) Slot.unset).toArray = ls at hl ⊢
  have hl : lv_has ls 5 [(0, .ref x), (1, .int (v)), (2, .int (v2)), (3, .ref ou)] := hl
  generalize hQ : MQ below (va_Qi (fun (r : Int32) (u : Unit) => r = nI 1) (fun _ _ => True) (A)) [.ref x, .int (v), .int (v2), .ref ou].toArray s 1 6 A = Q
  have hRc : (headSpec w_W_flips rt_W_flips).room.cells = 1 := rfl
  have hRs : (headSpec w_W_flips rt_W_flips).room.slots = 6 := rfl
  refine lv_aload_n hx hb d_W_flips_0 rfl (lv_at hl 3 rfl) ?_
  refine lv_iconst (v := nI 0) hx hb d_W_flips_1 (by decide) ?_
  refine lv_aload_n hx hb d_W_flips_2 rfl (lv_at hl 0 rfl) ?_
  refine lv_iload_n hx hb d_W_flips_3 rfl (lv_at hl 1 rfl) ?_
  refine lv_iload_n hx hb d_W_flips_4 rfl (lv_at hl 2 rfl) ?_
  refine lt_cv1 (b := x) (As := [.int (v), .int (v2)]) (rest := [.int (nI 0), .ref ou]) ⟨hx, hb, hml, hown, hts⟩ (t_C_flips l hlt D g _ ((ou, .inl (g 1, 1, .inr (.inl (fo)))) :: wr) x tn ac sp oc kd M ha af w1 c1 t1 an su a0 b0 lb fa fs hM0 hM v v2 hv9) (kV 2 hts m_485 m_482 m_483 m_484 m_30 (by decide +kernel) ⟨Nat.le_of_ble_eq_true rfl, Nat.le_of_ble_eq_true rfl⟩) ⟨pPT_blind _ _ _ _ _, va_recv hK hP (ci := 0) (q0 := 1) rfl rfl, fun U hU hW => ⟨rfl, pPT_of hU hW hP hKK hD hTN.1 hTS⟩⟩ hS hA hl.1 rfl rfl (Nat.le_of_ble_eq_true rfl) d_W_flips_5 ⟨Nat.le_of_ble_eq_true rfl, Nat.le_of_ble_eq_true rfl⟩ htab ⟨by decide, by decide⟩ (by decide) (hts _ m_311) (va_Nw.use rfl (hTN.1.2.1 exI (by simp))) (fun q9 H locs hS => ?_)
  refine lv_astore (lv' := [(4, .ref q9), (0, .ref x), (1, .int (v)), (2, .int (v2)), (3, .ref ou)]) hx hb d_W_flips_13 hl (by decide) rfl (fun ls hl => ?_)
  refine lv_iconst (v := nI 1) hx hb d_W_flips_15 (by decide) ?_
  refine W.widen (k := 1) (n := 6) (by omega) (by omega) ?_
  rw [← hQ]
  refine W.iret (v := nI 1) hx hb hr ?_ hS.2.2 d_W_flips_16
  exact fun t ht hW => ⟨⟨nI 1, (), rfl, rfl, trivial⟩, hS.F ht⟩
set_option maxHeartbeats 4000000 in
set_option maxRecDepth 100000 in
theorem c_W_table (l : Launch) (D : va_G) (g : Nat → ClassId) (sz : Nat) (wr : va_W) (ou : Nat) (fo : Nat → Int64) (x tn ac sp oc kd M ha af w1 c1 t1 an su : Nat) (a0 : Int64) (b0 lb : Int32) (fa fs : Nat → Int32) (hcw : CodeW g kd M oc wr) (hM0 : 0 < M) (hM : M ≤ 57) (k : Nat) (hk9 : k < 8) (han : (an = 0 ∧ fa = fun _ => nI 0) ∨ (an = 1 ∧ fa = fun i => nI (tbl (pairA kd M) (M + ckb kd M) (M + ckb kd M) i))) : Met l y_W_table w_W_table rm_W_table (va_Pc [.ref x, .int (nI k), .ref ou] (pP D (tyl g) ((tn, .inr (5, [.long (a0), .int (b0)])) :: (x, .inr (0, [.int (nI kd), .int (nI M), .int (nI (M + ckb kd M)), .long (lN (2 ^ M - 1)), .int (nI (2 ^ ckb kd M - 1)), .ref oc, .ref tn, .int (nI ha), .int (nI af), .long (lN w1), .int (nI c1), .int (nI t1), .ref ac, .int (nI an), .int (lb), .ref sp, .int (nI su)])) :: (ac, .inl (g 0, 8, .inl (fa))) :: (sp, .inl (g 0, 8, .inl (fs))) :: (ou, .inl (g 1, 1, .inr (.inl (fo)))) :: wr) sz)) (va_Qi (fun (r : Int32) (u : (Int64 × Int32)) => r = nI 0) (fun u => qB D (va_A ((tn, .inr (5, [.long (a0), .int (b0)])) :: (x, .inr (0, [.int (nI kd), .int (nI M), .int (nI (M + ckb kd M)), .long (lN (2 ^ M - 1)), .int (nI (2 ^ ckb kd M - 1)), .ref oc, .ref tn, .int (nI ha), .int (nI af), .long (lN w1), .int (nI c1), .int (nI t1), .ref ac, .int (nI an), .int (lb), .ref sp, .int (nI su)])) :: (ac, .inl (g 0, 8, .inl (fa))) :: (sp, .inl (g 0, 8, .inl (fs))) :: (ou, .inl (g 1, 1, .inr (.inl (fo)))) :: wr) sz) ((tn, .inr (5, [.long (u.1), .int (u.2)])) :: (x, .inr (0, [.int (nI kd), .int (nI M), .int (nI (M + ckb kd M)), .long (lN (2 ^ M - 1)), .int (nI (2 ^ ckb kd M - 1)), .ref oc, .ref tn, .int (nI ha), .int (nI af), .long (lN w1), .int (nI c1), .int (nI t1), .ref ac, .int (nI 1), .int (lb), .ref sp, .int (nI su)])) :: (ac, .inl (g 0, 8, .inl (fun i => nI (tbl (pairA kd M) (M + ckb kd M) (M + ckb kd M) i)))) :: (sp, .inl (g 0, 8, .inl (fs))) :: (ou, .inl (g 1, 1, .inr (.inl (vp_updL fo 0 ((nI (tbl (pairA kd M) (M + ckb kd M) (M + ckb kd M) k)).toInt64))))) :: wr)) (va_A ((tn, .inr (5, [.long (a0), .int (b0)])) :: (x, .inr (0, [.int (nI kd), .int (nI M), .int (nI (M + ckb kd M)), .long (lN (2 ^ M - 1)), .int (nI (2 ^ ckb kd M - 1)), .ref oc, .ref tn, .int (nI ha), .int (nI af), .long (lN w1), .int (nI c1), .int (nI t1), .ref ac, .int (nI an), .int (lb), .ref sp, .int (nI su)])) :: (ac, .inl (g 0, 8, .inl (fa))) :: (sp, .inl (g 0, 8, .inl (fs))) :: (ou, .inl (g 1, 1, .inr (.inl (fo)))) :: wr) sz)) 0 0 (va_A ((tn, .inr (5, [.long (a0), .int (b0)])) :: (x, .inr (0, [.int (nI kd), .int (nI M), .int (nI (M + ckb kd M)), .long (lN (2 ^ M - 1)), .int (nI (2 ^ ckb kd M - 1)), .ref oc, .ref tn, .int (nI ha), .int (nI af), .long (lN w1), .int (nI c1), .int (nI t1), .ref ac, .int (nI an), .int (lb), .ref sp, .int (nI su)])) :: (ac, .inl (g 0, 8, .inl (fa))) :: (sp, .inl (g 0, 8, .inl (fs))) :: (ou, .inl (g 1, 1, .inr (.inl (fo)))) :: wr) sz) := by
  refine va_MetW (cc := b_W_table) (maxL := 4) (ret := (some .int)) (hh := [(0, 9, 12, 13)]) (by decide +kernel) rfl ?_
  intro p e s m args below meth c s₁ Bq hml hv
  have hx := Bq.exec
  have hb := Bq.bytes
  have hr := Bq.returns
  have htab := tabW_of (hh := [(0, 9, 12, 13)]) Bq rfl
  have hts : ∀ w ∈ wA, w.before args s = true := fun w h => atoms_spec (ws := w_W_table) Bq.pre w (List.mem_cons_of_mem _ h)
  have hown : s.vm.findClass R_W = some m.cls := findClass_of_methodNamed Bq.named
  have hlocks := Bq.notSynchronized
  obtain ⟨rfl, hsz, hP, hKK, hD0⟩ := hv
  have hK := hKK.1
  subst hsz
  have hD := hD0.self (sz := s.heap.size)
  generalize hAe : va_A ((tn, .inr (5, [.long (a0), .int (b0)])) :: (x, .inr (0, [.int (nI kd), .int (nI M), .int (nI (M + ckb kd M)), .long (lN (2 ^ M - 1)), .int (nI (2 ^ ckb kd M - 1)), .ref oc, .ref tn, .int (nI ha), .int (nI af), .long (lN w1), .int (nI c1), .int (nI t1), .ref ac, .int (nI an), .int (lb), .ref sp, .int (nI su)])) :: (ac, .inl (g 0, 8, .inl (fa))) :: (sp, .inl (g 0, 8, .inl (fs))) :: (ou, .inl (g 1, 1, .inr (.inl (fo)))) :: wr) s.heap.size = A at hD ⊢
  have hA : ∀ q : Nat, s.heap.size ≤ q → A q := fun q h => by rw [← hAe]; exact Or.inr h
  have hS : va_S A s.heap s.heap [] := va_S.rf
  have hl := lv_entry ([.ref x, .int (nI k), .ref ou]) (n := 4) (Nat.le_of_ble_eq_true rfl)
  rw [lg_entry_eq]
  generalize (lg_sl ([.ref x, .int (nI k), .ref ou]) ++ List.replicate (4 - (lg_sl ([.ref x, .int (nI k), .ref ou])).length) Slot.unset).toArray = ls at hl ⊢
  have hl : lv_has ls 4 [(0, .ref x), (1, .int (nI k)), (2, .ref ou)] := hl
  generalize hQ : MQ below (va_Qi (fun (r : Int32) (u : (Int64 × Int32)) => r = nI 0) (fun u => qB D (A) ((tn, .inr (5, [.long (u.1), .int (u.2)])) :: (x, .inr (0, [.int (nI kd), .int (nI M), .int (nI (M + ckb kd M)), .long (lN (2 ^ M - 1)), .int (nI (2 ^ ckb kd M - 1)), .ref oc, .ref tn, .int (nI ha), .int (nI af), .long (lN w1), .int (nI c1), .int (nI t1), .ref ac, .int (nI 1), .int (lb), .ref sp, .int (nI su)])) :: (ac, .inl (g 0, 8, .inl (fun i => nI (tbl (pairA kd M) (M + ckb kd M) (M + ckb kd M) i)))) :: (sp, .inl (g 0, 8, .inl (fs))) :: (ou, .inl (g 1, 1, .inr (.inl (vp_updL fo 0 ((nI (tbl (pairA kd M) (M + ckb kd M) (M + ckb kd M) k)).toInt64))))) :: wr)) (A)) [.ref x, .int (nI k), .ref ou].toArray s 0 0 A = Q
  refine lv_aload_n hx hb d_W_table_0 rfl (lv_at hl 2 rfl) ?_
  refine lv_iconst (v := nI 0) hx hb d_W_table_1 (by decide) ?_
  refine lv_aload_n hx hb d_W_table_2 rfl (lv_at hl 0 rfl) ?_
  refine lv_iload_n hx hb d_W_table_3 rfl (lv_at hl 1 rfl) ?_
  refine lc_Vi (b := x) (As := [.int (nI k)]) (rest := [.int (nI 0), .ref ou]) ⟨hx, hb, hml, hown, hts⟩ (c_C_table l D g _ ((ou, .inl (g 1, 1, .inr (.inl (fo)))) :: wr) x tn ac sp oc kd M ha af w1 c1 t1 an su a0 b0 lb fa fs (hcw.cons _) hM0 hM k hk9 han) (kV 1 hts m_520 m_517 m_518 m_519 m_30 (by decide +kernel) ⟨Nat.le_of_ble_eq_true rfl, Nat.le_of_ble_eq_true rfl⟩) (va_recv hK hP (ci := 0) (q0 := 1) rfl rfl) hKK hP hD hS hA hl.1 rfl rfl (Nat.le_of_ble_eq_true rfl) d_W_table_4 ⟨Nat.le_of_ble_eq_true rfl, Nat.le_of_ble_eq_true rfl⟩ (fun rr u H locs er hP hD hS => ?_)
  have hP : va_P D vwCl ((tn, .inr (5, [.long (u.1), .int (u.2)])) :: (x, .inr (0, [.int (nI kd), .int (nI M), .int (nI (M + ckb kd M)), .long (lN (2 ^ M - 1)), .int (nI (2 ^ ckb kd M - 1)), .ref oc, .ref tn, .int (nI ha), .int (nI af), .long (lN w1), .int (nI c1), .int (nI t1), .ref ac, .int (nI 1), .int (lb), .ref sp, .int (nI su)])) :: (ac, .inl (g 0, 8, .inl (fun i => nI (tbl (pairA kd M) (M + ckb kd M) (M + ckb kd M) i)))) :: (sp, .inl (g 0, 8, .inl (fs))) :: (ou, .inl (g 1, 1, .inr (.inl (fo)))) :: wr) H := hP
  have hD : va_D A ((tn, .inr (5, [.long (u.1), .int (u.2)])) :: (x, .inr (0, [.int (nI kd), .int (nI M), .int (nI (M + ckb kd M)), .long (lN (2 ^ M - 1)), .int (nI (2 ^ ckb kd M - 1)), .ref oc, .ref tn, .int (nI ha), .int (nI af), .long (lN w1), .int (nI c1), .int (nI t1), .ref ac, .int (nI 1), .int (lb), .ref sp, .int (nI su)])) :: (ac, .inl (g 0, 8, .inl (fun i => nI (tbl (pairA kd M) (M + ckb kd M) (M + ckb kd M) i)))) :: (sp, .inl (g 0, 8, .inl (fs))) :: (ou, .inl (g 1, 1, .inr (.inl (fo)))) :: wr) := hD
  obtain rfl : rr = nI (tbl (pairA kd M) (M + ckb kd M) (M + ckb kd M) k) := er
  refine lv_i2l (v := (nI (tbl (pairA kd M) (M + ckb kd M) (M + ckb kd M) k)).toInt64) hx hb d_W_table_7 (rfl) ?_
  refine lx_last (f' := vp_updL fo 0 ((nI (tbl (pairA kd M) (M + ckb kd M) (M + ckb kd M) k)).toInt64)) hx hb hK hP hD hS 4 1 rfl rfl (j := 0) (by omega) (by omega) (rfl) d_W_table_8 (fun H locs hP hD hS => ?_)
  have hP : va_P D vwCl ((tn, .inr (5, [.long (u.1), .int (u.2)])) :: (x, .inr (0, [.int (nI kd), .int (nI M), .int (nI (M + ckb kd M)), .long (lN (2 ^ M - 1)), .int (nI (2 ^ ckb kd M - 1)), .ref oc, .ref tn, .int (nI ha), .int (nI af), .long (lN w1), .int (nI c1), .int (nI t1), .ref ac, .int (nI 1), .int (lb), .ref sp, .int (nI su)])) :: (ac, .inl (g 0, 8, .inl (fun i => nI (tbl (pairA kd M) (M + ckb kd M) (M + ckb kd M) i)))) :: (sp, .inl (g 0, 8, .inl (fs))) :: (ou, .inl (g 1, 1, .inr (.inl (vp_updL fo 0 ((nI (tbl (pairA kd M) (M + ckb kd M) (M + ckb kd M) k)).toInt64))))) :: wr) H := hP
  have hD : va_D A ((tn, .inr (5, [.long (u.1), .int (u.2)])) :: (x, .inr (0, [.int (nI kd), .int (nI M), .int (nI (M + ckb kd M)), .long (lN (2 ^ M - 1)), .int (nI (2 ^ ckb kd M - 1)), .ref oc, .ref tn, .int (nI ha), .int (nI af), .long (lN w1), .int (nI c1), .int (nI t1), .ref ac, .int (nI 1), .int (lb), .ref sp, .int (nI su)])) :: (ac, .inl (g 0, 8, .inl (fun i => nI (tbl (pairA kd M) (M + ckb kd M) (M + ckb kd M) i)))) :: (sp, .inl (g 0, 8, .inl (fs))) :: (ou, .inl (g 1, 1, .inr (.inl (vp_updL fo 0 ((nI (tbl (pairA kd M) (M + ckb kd M) (M + ckb kd M) k)).toInt64))))) :: wr) := hD
  refine lv_goto (tgt := 15) hx hb d_W_table_9 (by decide) ?_
  refine lv_iconst (v := nI 0) hx hb d_W_table_15 (by decide) ?_
  rw [← hQ]
  refine W.iret (v := nI 0) hx hb hr ?_ hS.2.2 d_W_table_16
  exact fun t ht hW => ⟨⟨nI 0, u, rfl, rfl, by rw [ht]; exact hP, hD⟩, hS.F ht⟩
set_option maxHeartbeats 4000000 in
set_option maxRecDepth 100000 in
theorem t_W_table (l : Launch) (hlt : l.stackTraces = false) (D : va_G) (g : Nat → ClassId) (sz : Nat) (wr : va_W) (ou : Nat) (fo : Nat → Int64) (x tn ac sp oc kd M ha af w1 c1 t1 an su : Nat) (a0 : Int64) (b0 lb : Int32) (fa fs : Nat → Int32) (hM0 : 0 < M) (hM : M ≤ 57) (v : Int32) (hv9 : inBb 8 v = 0) : Met l y_W_table w_W_table rt_W_table (va_Pc [.ref x, .int (v), .ref ou] (pPW D (tyl g) ((tn, .inr (5, [.long (a0), .int (b0)])) :: (x, .inr (0, [.int (nI kd), .int (nI M), .int (nI (M + ckb kd M)), .long (lN (2 ^ M - 1)), .int (nI (2 ^ ckb kd M - 1)), .ref oc, .ref tn, .int (nI ha), .int (nI af), .long (lN w1), .int (nI c1), .int (nI t1), .ref ac, .int (nI an), .int (lb), .ref sp, .int (nI su)])) :: (ac, .inl (g 0, 8, .inl (fa))) :: (sp, .inl (g 0, 8, .inl (fs))) :: (ou, .inl (g 1, 1, .inr (.inl (fo)))) :: wr) sz)) (va_Qi (fun (r : Int32) (u : Unit) => r = nI 1) (fun _ _ => True) (fun q : Nat => sz ≤ q)) 1 6 (fun q : Nat => sz ≤ q) := by
  refine va_MetW (cc := b_W_table) (maxL := 4) (ret := (some .int)) (hh := [(0, 9, 12, 13)]) (by decide +kernel) rfl ?_
  intro p e s m args below meth c s₁ Bq hml hv
  have hx := Bq.exec
  have hb := Bq.bytes
  have hr := Bq.returns
  have htab := tabW_of (hh := [(0, 9, 12, 13)]) Bq rfl
  have hts : ∀ w ∈ wA, w.before args s = true := fun w h => atoms_spec (ws := w_W_table) Bq.pre w (List.mem_cons_of_mem _ h)
  have hown : s.vm.findClass R_W = some m.cls := findClass_of_methodNamed Bq.named
  have hlocks := Bq.notSynchronized
  obtain ⟨rfl, ⟨hsz, hP, hKK, hD0⟩, hTN, hTS⟩ := hv
  have hK := hKK.1
  subst hsz
  have hD := hD0
  generalize hAe : (fun q : Nat => s.heap.size ≤ q) = A
  have hA : ∀ q : Nat, s.heap.size ≤ q → A q := fun q h => by rw [← hAe]; exact h
  have hS : va_S A s.heap s.heap [] := va_S.rf
  have hl := lv_entry ([.ref x, .int (v), .ref ou]) (n := 4) (Nat.le_of_ble_eq_true rfl)
  rw [lg_entry_eq]
  generalize (lg_sl ([.ref x, .int (v), .ref ou]) ++ List.replicate (4 - (lg_sl ([.ref x, .int (v), .ref ou])).length) Slot.unset).toArray = ls at hl ⊢
  have hl : lv_has ls 4 [(0, .ref x), (1, .int (v)), (2, .ref ou)] := hl
  generalize hQ : MQ below (va_Qi (fun (r : Int32) (u : Unit) => r = nI 1) (fun _ _ => True) (A)) [.ref x, .int (v), .ref ou].toArray s 1 6 A = Q
  have hRc : (headSpec w_W_table rt_W_table).room.cells = 1 := rfl
  have hRs : (headSpec w_W_table rt_W_table).room.slots = 6 := rfl
  refine lv_aload_n hx hb d_W_table_0 rfl (lv_at hl 2 rfl) ?_
  refine lv_iconst (v := nI 0) hx hb d_W_table_1 (by decide) ?_
  refine lv_aload_n hx hb d_W_table_2 rfl (lv_at hl 0 rfl) ?_
  refine lv_iload_n hx hb d_W_table_3 rfl (lv_at hl 1 rfl) ?_
  refine lt_cv1 (b := x) (As := [.int (v)]) (rest := [.int (nI 0), .ref ou]) ⟨hx, hb, hml, hown, hts⟩ (t_C_table l hlt D g _ ((ou, .inl (g 1, 1, .inr (.inl (fo)))) :: wr) x tn ac sp oc kd M ha af w1 c1 t1 an su a0 b0 lb fa fs hM0 hM v hv9) (kV 1 hts m_520 m_517 m_518 m_519 m_30 (by decide +kernel) ⟨Nat.le_of_ble_eq_true rfl, Nat.le_of_ble_eq_true rfl⟩) ⟨pPT_blind _ _ _ _ _, va_recv hK hP (ci := 0) (q0 := 1) rfl rfl, fun U hU hW => ⟨rfl, pPT_of hU hW hP hKK hD hTN.1 hTS⟩⟩ hS hA hl.1 rfl rfl (Nat.le_of_ble_eq_true rfl) d_W_table_4 ⟨Nat.le_of_ble_eq_true rfl, Nat.le_of_ble_eq_true rfl⟩ htab ⟨by decide, by decide⟩ (by decide) (hts _ m_311) (va_Nw.use rfl (hTN.1.2.1 exI (by simp))) (fun q9 H locs hS => ?_)
  refine lv_astore_n (lv' := [(3, .ref q9), (0, .ref x), (1, .int (v)), (2, .ref ou)]) hx hb d_W_table_12 rfl hl (by decide) rfl (fun ls hl => ?_)
  refine lv_iconst (v := nI 1) hx hb d_W_table_13 (by decide) ?_
  refine W.widen (k := 1) (n := 6) (by omega) (by omega) ?_
  rw [← hQ]
  refine W.iret (v := nI 1) hx hb hr ?_ hS.2.2 d_W_table_14
  exact fun t ht hW => ⟨⟨nI 1, (), rfl, rfl, trivial⟩, hS.F ht⟩
set_option maxHeartbeats 4000000 in
set_option maxRecDepth 100000 in
theorem c_W_bursts (l : Launch) (D : va_G) (g : Nat → ClassId) (sz : Nat) (wr : va_W) (ou : Nat) (fo : Nat → Int64) (x tn ac sp oc kd M ha af w1 c1 t1 an su : Nat) (a0 : Int64) (b0 lb : Int32) (fa fs : Nat → Int32) (hcw : CodeW g kd M oc wr) (hM0 : 0 < M) (hM : M ≤ 57) (k : Nat) (hk1 : 1 ≤ k) (hk6 : k ≤ 6) (hlb : lb = -1 ∨ ∃ b, lb = nI b ∧ LB kd M b) : Met l y_W_bursts w_W_bursts rm_W_bursts (va_Pc [.ref x, .int (nI k), .ref ou] (pP D (tyl g) ((tn, .inr (5, [.long (a0), .int (b0)])) :: (x, .inr (0, [.int (nI kd), .int (nI M), .int (nI (M + ckb kd M)), .long (lN (2 ^ M - 1)), .int (nI (2 ^ ckb kd M - 1)), .ref oc, .ref tn, .int (nI ha), .int (nI af), .long (lN w1), .int (nI c1), .int (nI t1), .ref ac, .int (nI an), .int (lb), .ref sp, .int (nI su)])) :: (ac, .inl (g 0, 8, .inl (fa))) :: (sp, .inl (g 0, 8, .inl (fs))) :: (ou, .inl (g 1, 1, .inr (.inl (fo)))) :: wr) sz)) (va_Qi (fun (r : Int32) (u : ((Int64 × Int32) × Nat)) => r = nI 0 ∧ LB kd M u.2) (fun u => qB D (va_A ((tn, .inr (5, [.long (a0), .int (b0)])) :: (x, .inr (0, [.int (nI kd), .int (nI M), .int (nI (M + ckb kd M)), .long (lN (2 ^ M - 1)), .int (nI (2 ^ ckb kd M - 1)), .ref oc, .ref tn, .int (nI ha), .int (nI af), .long (lN w1), .int (nI c1), .int (nI t1), .ref ac, .int (nI an), .int (lb), .ref sp, .int (nI su)])) :: (ac, .inl (g 0, 8, .inl (fa))) :: (sp, .inl (g 0, 8, .inl (fs))) :: (ou, .inl (g 1, 1, .inr (.inl (fo)))) :: wr) sz) ((tn, .inr (5, [.long (u.1.1), .int (u.1.2)])) :: (x, .inr (0, [.int (nI kd), .int (nI M), .int (nI (M + ckb kd M)), .long (lN (2 ^ M - 1)), .int (nI (2 ^ ckb kd M - 1)), .ref oc, .ref tn, .int (nI ha), .int (nI af), .long (lN w1), .int (nI c1), .int (nI t1), .ref ac, .int (nI an), .int (nI u.2), .ref sp, .int (nI su)])) :: (ac, .inl (g 0, 8, .inl (fa))) :: (sp, .inl (g 0, 8, .inl (fs))) :: (ou, .inl (g 1, 1, .inr (.inl (vp_updL fo 0 (lN (if k ≤ u.2 then 1 else 0)))))) :: wr)) (va_A ((tn, .inr (5, [.long (a0), .int (b0)])) :: (x, .inr (0, [.int (nI kd), .int (nI M), .int (nI (M + ckb kd M)), .long (lN (2 ^ M - 1)), .int (nI (2 ^ ckb kd M - 1)), .ref oc, .ref tn, .int (nI ha), .int (nI af), .long (lN w1), .int (nI c1), .int (nI t1), .ref ac, .int (nI an), .int (lb), .ref sp, .int (nI su)])) :: (ac, .inl (g 0, 8, .inl (fa))) :: (sp, .inl (g 0, 8, .inl (fs))) :: (ou, .inl (g 1, 1, .inr (.inl (fo)))) :: wr) sz)) 0 0 (va_A ((tn, .inr (5, [.long (a0), .int (b0)])) :: (x, .inr (0, [.int (nI kd), .int (nI M), .int (nI (M + ckb kd M)), .long (lN (2 ^ M - 1)), .int (nI (2 ^ ckb kd M - 1)), .ref oc, .ref tn, .int (nI ha), .int (nI af), .long (lN w1), .int (nI c1), .int (nI t1), .ref ac, .int (nI an), .int (lb), .ref sp, .int (nI su)])) :: (ac, .inl (g 0, 8, .inl (fa))) :: (sp, .inl (g 0, 8, .inl (fs))) :: (ou, .inl (g 1, 1, .inr (.inl (fo)))) :: wr) sz) := by
  refine va_MetW (cc := b_W_bursts) (maxL := 4) (ret := (some .int)) (hh := [(0, 16, 19, 25)]) (by decide +kernel) rfl ?_
  intro p e s m args below meth c s₁ Bq hml hv
  have hx := Bq.exec
  have hb := Bq.bytes
  have hr := Bq.returns
  have htab := tabW_of (hh := [(0, 16, 19, 25)]) Bq rfl
  have hts : ∀ w ∈ wA, w.before args s = true := fun w h => atoms_spec (ws := w_W_bursts) Bq.pre w (List.mem_cons_of_mem _ h)
  have hown : s.vm.findClass R_W = some m.cls := findClass_of_methodNamed Bq.named
  have hlocks := Bq.notSynchronized
  obtain ⟨rfl, hsz, hP, hKK, hD0⟩ := hv
  have hK := hKK.1
  subst hsz
  have hD := hD0.self (sz := s.heap.size)
  generalize hAe : va_A ((tn, .inr (5, [.long (a0), .int (b0)])) :: (x, .inr (0, [.int (nI kd), .int (nI M), .int (nI (M + ckb kd M)), .long (lN (2 ^ M - 1)), .int (nI (2 ^ ckb kd M - 1)), .ref oc, .ref tn, .int (nI ha), .int (nI af), .long (lN w1), .int (nI c1), .int (nI t1), .ref ac, .int (nI an), .int (lb), .ref sp, .int (nI su)])) :: (ac, .inl (g 0, 8, .inl (fa))) :: (sp, .inl (g 0, 8, .inl (fs))) :: (ou, .inl (g 1, 1, .inr (.inl (fo)))) :: wr) s.heap.size = A at hD ⊢
  have hA : ∀ q : Nat, s.heap.size ≤ q → A q := fun q h => by rw [← hAe]; exact Or.inr h
  have hS : va_S A s.heap s.heap [] := va_S.rf
  have hl := lv_entry ([.ref x, .int (nI k), .ref ou]) (n := 4) (Nat.le_of_ble_eq_true rfl)
  rw [lg_entry_eq]
  generalize (lg_sl ([.ref x, .int (nI k), .ref ou]) ++ List.replicate (4 - (lg_sl ([.ref x, .int (nI k), .ref ou])).length) Slot.unset).toArray = ls at hl ⊢
  have hl : lv_has ls 4 [(0, .ref x), (1, .int (nI k)), (2, .ref ou)] := hl
  generalize hQ : MQ below (va_Qi (fun (r : Int32) (u : ((Int64 × Int32) × Nat)) => r = nI 0 ∧ LB kd M u.2) (fun u => qB D (A) ((tn, .inr (5, [.long (u.1.1), .int (u.1.2)])) :: (x, .inr (0, [.int (nI kd), .int (nI M), .int (nI (M + ckb kd M)), .long (lN (2 ^ M - 1)), .int (nI (2 ^ ckb kd M - 1)), .ref oc, .ref tn, .int (nI ha), .int (nI af), .long (lN w1), .int (nI c1), .int (nI t1), .ref ac, .int (nI an), .int (nI u.2), .ref sp, .int (nI su)])) :: (ac, .inl (g 0, 8, .inl (fa))) :: (sp, .inl (g 0, 8, .inl (fs))) :: (ou, .inl (g 1, 1, .inr (.inl (vp_updL fo 0 (lN (if k ≤ u.2 then 1 else 0)))))) :: wr)) (A)) [.ref x, .int (nI k), .ref ou].toArray s 0 0 A = Q
  refine lv_aload_n hx hb d_W_bursts_0 rfl (lv_at hl 2 rfl) ?_
  refine lv_iconst (v := nI 0) hx hb d_W_bursts_1 (by decide) ?_
  refine lv_aload_n hx hb d_W_bursts_2 rfl (lv_at hl 0 rfl) ?_
  refine lv_iload_n hx hb d_W_bursts_3 rfl (lv_at hl 1 rfl) ?_
  refine lc_Vi (b := x) (As := [.int (nI k)]) (rest := [.int (nI 0), .ref ou]) ⟨hx, hb, hml, hown, hts⟩ (c_C_bursts l D g _ ((ou, .inl (g 1, 1, .inr (.inl (fo)))) :: wr) x tn ac sp oc kd M ha af w1 c1 t1 an su a0 b0 lb fa fs (hcw.cons _) hM0 hM k hk1 hk6 hlb) (kV 1 hts m_536 m_533 m_534 m_535 m_30 (by decide +kernel) ⟨Nat.le_of_ble_eq_true rfl, Nat.le_of_ble_eq_true rfl⟩) (va_recv hK hP (ci := 0) (q0 := 1) rfl rfl) hKK hP hD hS hA hl.1 rfl rfl (Nat.le_of_ble_eq_true rfl) d_W_bursts_4 ⟨Nat.le_of_ble_eq_true rfl, Nat.le_of_ble_eq_true rfl⟩ (fun rr u H locs er hP hD hS => ?_)
  have hP : va_P D vwCl ((tn, .inr (5, [.long (u.1.1), .int (u.1.2)])) :: (x, .inr (0, [.int (nI kd), .int (nI M), .int (nI (M + ckb kd M)), .long (lN (2 ^ M - 1)), .int (nI (2 ^ ckb kd M - 1)), .ref oc, .ref tn, .int (nI ha), .int (nI af), .long (lN w1), .int (nI c1), .int (nI t1), .ref ac, .int (nI an), .int (nI u.2), .ref sp, .int (nI su)])) :: (ac, .inl (g 0, 8, .inl (fa))) :: (sp, .inl (g 0, 8, .inl (fs))) :: (ou, .inl (g 1, 1, .inr (.inl (fo)))) :: wr) H := hP
  have hD : va_D A ((tn, .inr (5, [.long (u.1.1), .int (u.1.2)])) :: (x, .inr (0, [.int (nI kd), .int (nI M), .int (nI (M + ckb kd M)), .long (lN (2 ^ M - 1)), .int (nI (2 ^ ckb kd M - 1)), .ref oc, .ref tn, .int (nI ha), .int (nI af), .long (lN w1), .int (nI c1), .int (nI t1), .ref ac, .int (nI an), .int (nI u.2), .ref sp, .int (nI su)])) :: (ac, .inl (g 0, 8, .inl (fa))) :: (sp, .inl (g 0, 8, .inl (fs))) :: (ou, .inl (g 1, 1, .inr (.inl (fo)))) :: wr) := hD
  obtain rfl : rr = nI (if k ≤ u.2 then 1 else 0) := er.1
  have hz9 : ((if k ≤ u.2 then 1 else 0) : Nat) ≤ 1 := by split <;> decide
  refine lx_if_eq (tgt := 14) hx hb d_W_bursts_7 (by decide) (by omega) (fun c7 => ?_) (fun c7 => ?_)
  · skip
    refine lv_lconst (v := lN 0) hx hb d_W_bursts_14 (by decide) ?_
    refine lx_last (f' := vp_updL fo 0 (lN (if k ≤ u.2 then 1 else 0))) hx hb hK hP hD hS 4 1 rfl rfl (j := 0) (by omega) (by omega) (by rw [show (if k ≤ u.2 then 1 else 0) = 0 by omega]) d_W_bursts_15 (fun H locs hP hD hS => ?_)
    have hP : va_P D vwCl ((tn, .inr (5, [.long (u.1.1), .int (u.1.2)])) :: (x, .inr (0, [.int (nI kd), .int (nI M), .int (nI (M + ckb kd M)), .long (lN (2 ^ M - 1)), .int (nI (2 ^ ckb kd M - 1)), .ref oc, .ref tn, .int (nI ha), .int (nI af), .long (lN w1), .int (nI c1), .int (nI t1), .ref ac, .int (nI an), .int (nI u.2), .ref sp, .int (nI su)])) :: (ac, .inl (g 0, 8, .inl (fa))) :: (sp, .inl (g 0, 8, .inl (fs))) :: (ou, .inl (g 1, 1, .inr (.inl (vp_updL fo 0 (lN (if k ≤ u.2 then 1 else 0)))))) :: wr) H := hP
    have hD : va_D A ((tn, .inr (5, [.long (u.1.1), .int (u.1.2)])) :: (x, .inr (0, [.int (nI kd), .int (nI M), .int (nI (M + ckb kd M)), .long (lN (2 ^ M - 1)), .int (nI (2 ^ ckb kd M - 1)), .ref oc, .ref tn, .int (nI ha), .int (nI af), .long (lN w1), .int (nI c1), .int (nI t1), .ref ac, .int (nI an), .int (nI u.2), .ref sp, .int (nI su)])) :: (ac, .inl (g 0, 8, .inl (fa))) :: (sp, .inl (g 0, 8, .inl (fs))) :: (ou, .inl (g 1, 1, .inr (.inl (vp_updL fo 0 (lN (if k ≤ u.2 then 1 else 0)))))) :: wr) := hD
    refine lv_goto (tgt := 22) hx hb d_W_bursts_16 (by decide) ?_
    refine lv_iconst (v := nI 0) hx hb d_W_bursts_22 (by decide) ?_
    rw [← hQ]
    refine W.iret (v := nI 0) hx hb hr ?_ hS.2.2 d_W_bursts_23
    exact fun t ht hW => ⟨⟨nI 0, u, rfl, ⟨rfl, er.2⟩, by rw [ht]; exact hP, hD⟩, hS.F ht⟩
  · skip
    refine lv_lconst (v := lN 1) hx hb d_W_bursts_10 (by decide) ?_
    refine lv_goto (tgt := 15) hx hb d_W_bursts_11 (by decide) ?_
    refine lx_last (f' := vp_updL fo 0 (lN (if k ≤ u.2 then 1 else 0))) hx hb hK hP hD hS 4 1 rfl rfl (j := 0) (by omega) (by omega) (by rw [show (if k ≤ u.2 then 1 else 0) = 1 by omega]) d_W_bursts_15 (fun H locs hP hD hS => ?_)
    have hP : va_P D vwCl ((tn, .inr (5, [.long (u.1.1), .int (u.1.2)])) :: (x, .inr (0, [.int (nI kd), .int (nI M), .int (nI (M + ckb kd M)), .long (lN (2 ^ M - 1)), .int (nI (2 ^ ckb kd M - 1)), .ref oc, .ref tn, .int (nI ha), .int (nI af), .long (lN w1), .int (nI c1), .int (nI t1), .ref ac, .int (nI an), .int (nI u.2), .ref sp, .int (nI su)])) :: (ac, .inl (g 0, 8, .inl (fa))) :: (sp, .inl (g 0, 8, .inl (fs))) :: (ou, .inl (g 1, 1, .inr (.inl (vp_updL fo 0 (lN (if k ≤ u.2 then 1 else 0)))))) :: wr) H := hP
    have hD : va_D A ((tn, .inr (5, [.long (u.1.1), .int (u.1.2)])) :: (x, .inr (0, [.int (nI kd), .int (nI M), .int (nI (M + ckb kd M)), .long (lN (2 ^ M - 1)), .int (nI (2 ^ ckb kd M - 1)), .ref oc, .ref tn, .int (nI ha), .int (nI af), .long (lN w1), .int (nI c1), .int (nI t1), .ref ac, .int (nI an), .int (nI u.2), .ref sp, .int (nI su)])) :: (ac, .inl (g 0, 8, .inl (fa))) :: (sp, .inl (g 0, 8, .inl (fs))) :: (ou, .inl (g 1, 1, .inr (.inl (vp_updL fo 0 (lN (if k ≤ u.2 then 1 else 0)))))) :: wr) := hD
    refine lv_goto (tgt := 22) hx hb d_W_bursts_16 (by decide) ?_
    refine lv_iconst (v := nI 0) hx hb d_W_bursts_22 (by decide) ?_
    rw [← hQ]
    refine W.iret (v := nI 0) hx hb hr ?_ hS.2.2 d_W_bursts_23
    exact fun t ht hW => ⟨⟨nI 0, u, rfl, ⟨rfl, er.2⟩, by rw [ht]; exact hP, hD⟩, hS.F ht⟩
set_option maxHeartbeats 4000000 in
set_option maxRecDepth 100000 in
theorem t_W_bursts (l : Launch) (hlt : l.stackTraces = false) (D : va_G) (g : Nat → ClassId) (sz : Nat) (wr : va_W) (ou : Nat) (fo : Nat → Int64) (x tn ac sp oc kd M ha af w1 c1 t1 an su : Nat) (a0 : Int64) (b0 lb : Int32) (fa fs : Nat → Int32) (hM0 : 0 < M) (hM : M ≤ 57) (v : Int32) (hv9 : v < nI 1 ∨ ¬ v ≤ nI 6) : Met l y_W_bursts w_W_bursts rt_W_bursts (va_Pc [.ref x, .int (v), .ref ou] (pPW D (tyl g) ((tn, .inr (5, [.long (a0), .int (b0)])) :: (x, .inr (0, [.int (nI kd), .int (nI M), .int (nI (M + ckb kd M)), .long (lN (2 ^ M - 1)), .int (nI (2 ^ ckb kd M - 1)), .ref oc, .ref tn, .int (nI ha), .int (nI af), .long (lN w1), .int (nI c1), .int (nI t1), .ref ac, .int (nI an), .int (lb), .ref sp, .int (nI su)])) :: (ac, .inl (g 0, 8, .inl (fa))) :: (sp, .inl (g 0, 8, .inl (fs))) :: (ou, .inl (g 1, 1, .inr (.inl (fo)))) :: wr) sz)) (va_Qi (fun (r : Int32) (u : Unit) => r = nI 1) (fun _ _ => True) (fun q : Nat => sz ≤ q)) 1 6 (fun q : Nat => sz ≤ q) := by
  refine va_MetW (cc := b_W_bursts) (maxL := 4) (ret := (some .int)) (hh := [(0, 16, 19, 25)]) (by decide +kernel) rfl ?_
  intro p e s m args below meth c s₁ Bq hml hv
  have hx := Bq.exec
  have hb := Bq.bytes
  have hr := Bq.returns
  have htab := tabW_of (hh := [(0, 16, 19, 25)]) Bq rfl
  have hts : ∀ w ∈ wA, w.before args s = true := fun w h => atoms_spec (ws := w_W_bursts) Bq.pre w (List.mem_cons_of_mem _ h)
  have hown : s.vm.findClass R_W = some m.cls := findClass_of_methodNamed Bq.named
  have hlocks := Bq.notSynchronized
  obtain ⟨rfl, ⟨hsz, hP, hKK, hD0⟩, hTN, hTS⟩ := hv
  have hK := hKK.1
  subst hsz
  have hD := hD0
  generalize hAe : (fun q : Nat => s.heap.size ≤ q) = A
  have hA : ∀ q : Nat, s.heap.size ≤ q → A q := fun q h => by rw [← hAe]; exact h
  have hS : va_S A s.heap s.heap [] := va_S.rf
  have hl := lv_entry ([.ref x, .int (v), .ref ou]) (n := 4) (Nat.le_of_ble_eq_true rfl)
  rw [lg_entry_eq]
  generalize (lg_sl ([.ref x, .int (v), .ref ou]) ++ List.replicate (4 - (lg_sl ([.ref x, .int (v), .ref ou])).length) Slot.unset).toArray = ls at hl ⊢
  have hl : lv_has ls 4 [(0, .ref x), (1, .int (v)), (2, .ref ou)] := hl
  generalize hQ : MQ below (va_Qi (fun (r : Int32) (u : Unit) => r = nI 1) (fun _ _ => True) (A)) [.ref x, .int (v), .ref ou].toArray s 1 6 A = Q
  have hRc : (headSpec w_W_bursts rt_W_bursts).room.cells = 1 := rfl
  have hRs : (headSpec w_W_bursts rt_W_bursts).room.slots = 6 := rfl
  refine lv_aload_n hx hb d_W_bursts_0 rfl (lv_at hl 2 rfl) ?_
  refine lv_iconst (v := nI 0) hx hb d_W_bursts_1 (by decide) ?_
  refine lv_aload_n hx hb d_W_bursts_2 rfl (lv_at hl 0 rfl) ?_
  refine lv_iload_n hx hb d_W_bursts_3 rfl (lv_at hl 1 rfl) ?_
  refine lt_cv1 (b := x) (As := [.int (v)]) (rest := [.int (nI 0), .ref ou]) ⟨hx, hb, hml, hown, hts⟩ (t_C_bursts l hlt D g _ ((ou, .inl (g 1, 1, .inr (.inl (fo)))) :: wr) x tn ac sp oc kd M ha af w1 c1 t1 an su a0 b0 lb fa fs hM0 hM v hv9) (kV 1 hts m_536 m_533 m_534 m_535 m_30 (by decide +kernel) ⟨Nat.le_of_ble_eq_true rfl, Nat.le_of_ble_eq_true rfl⟩) ⟨pPT_blind _ _ _ _ _, va_recv hK hP (ci := 0) (q0 := 1) rfl rfl, fun U hU hW => ⟨rfl, pPT_of hU hW hP hKK hD hTN.1 hTS⟩⟩ hS hA hl.1 rfl rfl (Nat.le_of_ble_eq_true rfl) d_W_bursts_4 ⟨Nat.le_of_ble_eq_true rfl, Nat.le_of_ble_eq_true rfl⟩ htab ⟨by decide, by decide⟩ (by decide) (hts _ m_425) (va_Nw.use rfl (hTN.1.2.1 exA (by simp))) (fun q9 H locs hS => ?_)
  refine lv_astore_n (lv' := [(3, .ref q9), (0, .ref x), (1, .int (v)), (2, .ref ou)]) hx hb d_W_bursts_19 rfl hl (by decide) rfl (fun ls hl => ?_)
  refine lv_iconst (v := nI 1) hx hb d_W_bursts_20 (by decide) ?_
  refine W.widen (k := 1) (n := 6) (by omega) (by omega) ?_
  rw [← hQ]
  refine W.iret (v := nI 1) hx hb hr ?_ hS.2.2 d_W_bursts_21
  exact fun t ht hW => ⟨⟨nI 1, (), rfl, rfl, trivial⟩, hS.F ht⟩
set_option maxHeartbeats 4000000 in
set_option maxRecDepth 100000 in
theorem c_W_spare (l : Launch) (D : va_G) (g : Nat → ClassId) (sz : Nat) (wr : va_W) (ou : Nat) (fo : Nat → Int64) (x tn ac sp oc kd M ha af w1 c1 t1 an su : Nat) (a0 : Int64) (b0 lb : Int32) (fa fs : Nat → Int32) (hcw : CodeW g kd M oc wr) (hM0 : 0 < M) (hM : M ≤ 57) (j i : Nat) (hj : j < 65536) (hsu : su ≤ 8) (hi : i < su) (hf9 : fs i = nI j) (hno : ∀ k, k < i → ¬ fs k = nI j) : Met l y_W_spare w_W_spare rm_W_spare (va_Pc [.ref x, .int (nI j), .ref ou] (pP D (tyl g) ((tn, .inr (5, [.long (a0), .int (b0)])) :: (x, .inr (0, [.int (nI kd), .int (nI M), .int (nI (M + ckb kd M)), .long (lN (2 ^ M - 1)), .int (nI (2 ^ ckb kd M - 1)), .ref oc, .ref tn, .int (nI ha), .int (nI af), .long (lN w1), .int (nI c1), .int (nI t1), .ref ac, .int (nI an), .int (lb), .ref sp, .int (nI su)])) :: (ac, .inl (g 0, 8, .inl (fa))) :: (sp, .inl (g 0, 8, .inl (fs))) :: (ou, .inl (g 1, 1, .inr (.inl (fo)))) :: wr) sz)) (va_Qi (fun (r : Int32) (u : Unit) => r = nI 0) (fun u => qB D (va_A ((tn, .inr (5, [.long (a0), .int (b0)])) :: (x, .inr (0, [.int (nI kd), .int (nI M), .int (nI (M + ckb kd M)), .long (lN (2 ^ M - 1)), .int (nI (2 ^ ckb kd M - 1)), .ref oc, .ref tn, .int (nI ha), .int (nI af), .long (lN w1), .int (nI c1), .int (nI t1), .ref ac, .int (nI an), .int (lb), .ref sp, .int (nI su)])) :: (ac, .inl (g 0, 8, .inl (fa))) :: (sp, .inl (g 0, 8, .inl (fs))) :: (ou, .inl (g 1, 1, .inr (.inl (fo)))) :: wr) sz) ((tn, .inr (5, [.long (a0), .int (b0)])) :: (x, .inr (0, [.int (nI kd), .int (nI M), .int (nI (M + ckb kd M)), .long (lN (2 ^ M - 1)), .int (nI (2 ^ ckb kd M - 1)), .ref oc, .ref tn, .int (nI ha), .int (nI af), .long (lN w1), .int (nI c1), .int (nI t1), .ref ac, .int (nI an), .int (lb), .ref sp, .int (nI su)])) :: (ac, .inl (g 0, 8, .inl (fa))) :: (sp, .inl (g 0, 8, .inl (fs))) :: (ou, .inl (g 1, 1, .inr (.inl (vp_updL fo 0 ((nI i).toInt64))))) :: wr)) (va_A ((tn, .inr (5, [.long (a0), .int (b0)])) :: (x, .inr (0, [.int (nI kd), .int (nI M), .int (nI (M + ckb kd M)), .long (lN (2 ^ M - 1)), .int (nI (2 ^ ckb kd M - 1)), .ref oc, .ref tn, .int (nI ha), .int (nI af), .long (lN w1), .int (nI c1), .int (nI t1), .ref ac, .int (nI an), .int (lb), .ref sp, .int (nI su)])) :: (ac, .inl (g 0, 8, .inl (fa))) :: (sp, .inl (g 0, 8, .inl (fs))) :: (ou, .inl (g 1, 1, .inr (.inl (fo)))) :: wr) sz)) 0 0 (va_A ((tn, .inr (5, [.long (a0), .int (b0)])) :: (x, .inr (0, [.int (nI kd), .int (nI M), .int (nI (M + ckb kd M)), .long (lN (2 ^ M - 1)), .int (nI (2 ^ ckb kd M - 1)), .ref oc, .ref tn, .int (nI ha), .int (nI af), .long (lN w1), .int (nI c1), .int (nI t1), .ref ac, .int (nI an), .int (lb), .ref sp, .int (nI su)])) :: (ac, .inl (g 0, 8, .inl (fa))) :: (sp, .inl (g 0, 8, .inl (fs))) :: (ou, .inl (g 1, 1, .inr (.inl (fo)))) :: wr) sz) := by
  refine va_MetW (cc := b_W_spare) (maxL := 4) (ret := (some .int)) (hh := [(0, 9, 12, 13), (0, 9, 15, 15)]) (by decide +kernel) rfl ?_
  intro p e s m args below meth c s₁ Bq hml hv
  have hx := Bq.exec
  have hb := Bq.bytes
  have hr := Bq.returns
  have htab := tabW_of (hh := [(0, 9, 12, 13), (0, 9, 15, 15)]) Bq rfl
  have hts : ∀ w ∈ wA, w.before args s = true := fun w h => atoms_spec (ws := w_W_spare) Bq.pre w (List.mem_cons_of_mem _ h)
  have hown : s.vm.findClass R_W = some m.cls := findClass_of_methodNamed Bq.named
  have hlocks := Bq.notSynchronized
  obtain ⟨rfl, hsz, hP, hKK, hD0⟩ := hv
  have hK := hKK.1
  subst hsz
  have hD := hD0.self (sz := s.heap.size)
  generalize hAe : va_A ((tn, .inr (5, [.long (a0), .int (b0)])) :: (x, .inr (0, [.int (nI kd), .int (nI M), .int (nI (M + ckb kd M)), .long (lN (2 ^ M - 1)), .int (nI (2 ^ ckb kd M - 1)), .ref oc, .ref tn, .int (nI ha), .int (nI af), .long (lN w1), .int (nI c1), .int (nI t1), .ref ac, .int (nI an), .int (lb), .ref sp, .int (nI su)])) :: (ac, .inl (g 0, 8, .inl (fa))) :: (sp, .inl (g 0, 8, .inl (fs))) :: (ou, .inl (g 1, 1, .inr (.inl (fo)))) :: wr) s.heap.size = A at hD ⊢
  have hA : ∀ q : Nat, s.heap.size ≤ q → A q := fun q h => by rw [← hAe]; exact Or.inr h
  have hS : va_S A s.heap s.heap [] := va_S.rf
  have hl := lv_entry ([.ref x, .int (nI j), .ref ou]) (n := 4) (Nat.le_of_ble_eq_true rfl)
  rw [lg_entry_eq]
  generalize (lg_sl ([.ref x, .int (nI j), .ref ou]) ++ List.replicate (4 - (lg_sl ([.ref x, .int (nI j), .ref ou])).length) Slot.unset).toArray = ls at hl ⊢
  have hl : lv_has ls 4 [(0, .ref x), (1, .int (nI j)), (2, .ref ou)] := hl
  generalize hQ : MQ below (va_Qi (fun (r : Int32) (u : Unit) => r = nI 0) (fun u => qB D (A) ((tn, .inr (5, [.long (a0), .int (b0)])) :: (x, .inr (0, [.int (nI kd), .int (nI M), .int (nI (M + ckb kd M)), .long (lN (2 ^ M - 1)), .int (nI (2 ^ ckb kd M - 1)), .ref oc, .ref tn, .int (nI ha), .int (nI af), .long (lN w1), .int (nI c1), .int (nI t1), .ref ac, .int (nI an), .int (lb), .ref sp, .int (nI su)])) :: (ac, .inl (g 0, 8, .inl (fa))) :: (sp, .inl (g 0, 8, .inl (fs))) :: (ou, .inl (g 1, 1, .inr (.inl (vp_updL fo 0 ((nI i).toInt64))))) :: wr)) (A)) [.ref x, .int (nI j), .ref ou].toArray s 0 0 A = Q
  refine lv_aload_n hx hb d_W_spare_0 rfl (lv_at hl 2 rfl) ?_
  refine lv_iconst (v := nI 0) hx hb d_W_spare_1 (by decide) ?_
  refine lv_aload_n hx hb d_W_spare_2 rfl (lv_at hl 0 rfl) ?_
  refine lv_iload_n hx hb d_W_spare_3 rfl (lv_at hl 1 rfl) ?_
  refine lc_Vi (b := x) (As := [.int (nI j)]) (rest := [.int (nI 0), .ref ou]) ⟨hx, hb, hml, hown, hts⟩ (c_C_spare l D g _ ((ou, .inl (g 1, 1, .inr (.inl (fo)))) :: wr) x tn ac sp oc kd M ha af w1 c1 t1 an su a0 b0 lb fa fs (hcw.cons _) hM0 hM j i hj hsu hi hf9 hno) (kV 1 hts m_556 m_553 m_554 m_555 m_30 (by decide +kernel) ⟨Nat.le_of_ble_eq_true rfl, Nat.le_of_ble_eq_true rfl⟩) (va_recv hK hP (ci := 0) (q0 := 1) rfl rfl) hKK hP hD hS hA hl.1 rfl rfl (Nat.le_of_ble_eq_true rfl) d_W_spare_4 ⟨Nat.le_of_ble_eq_true rfl, Nat.le_of_ble_eq_true rfl⟩ (fun rr u H locs er hP hD hS => ?_)
  obtain rfl : rr = nI i := er
  refine lv_i2l (v := (nI i).toInt64) hx hb d_W_spare_7 (rfl) ?_
  refine lx_last (f' := vp_updL fo 0 ((nI i).toInt64)) hx hb hK hP hD hS 4 1 rfl rfl (j := 0) (by omega) (by omega) (rfl) d_W_spare_8 (fun H locs hP hD hS => ?_)
  have hP : va_P D vwCl ((tn, .inr (5, [.long (a0), .int (b0)])) :: (x, .inr (0, [.int (nI kd), .int (nI M), .int (nI (M + ckb kd M)), .long (lN (2 ^ M - 1)), .int (nI (2 ^ ckb kd M - 1)), .ref oc, .ref tn, .int (nI ha), .int (nI af), .long (lN w1), .int (nI c1), .int (nI t1), .ref ac, .int (nI an), .int (lb), .ref sp, .int (nI su)])) :: (ac, .inl (g 0, 8, .inl (fa))) :: (sp, .inl (g 0, 8, .inl (fs))) :: (ou, .inl (g 1, 1, .inr (.inl (vp_updL fo 0 ((nI i).toInt64))))) :: wr) H := hP
  have hD : va_D A ((tn, .inr (5, [.long (a0), .int (b0)])) :: (x, .inr (0, [.int (nI kd), .int (nI M), .int (nI (M + ckb kd M)), .long (lN (2 ^ M - 1)), .int (nI (2 ^ ckb kd M - 1)), .ref oc, .ref tn, .int (nI ha), .int (nI af), .long (lN w1), .int (nI c1), .int (nI t1), .ref ac, .int (nI an), .int (lb), .ref sp, .int (nI su)])) :: (ac, .inl (g 0, 8, .inl (fa))) :: (sp, .inl (g 0, 8, .inl (fs))) :: (ou, .inl (g 1, 1, .inr (.inl (vp_updL fo 0 ((nI i).toInt64))))) :: wr) := hD
  refine lv_goto (tgt := 18) hx hb d_W_spare_9 (by decide) ?_
  refine lv_iconst (v := nI 0) hx hb d_W_spare_18 (by decide) ?_
  rw [← hQ]
  refine W.iret (v := nI 0) hx hb hr ?_ hS.2.2 d_W_spare_19
  exact fun t ht hW => ⟨⟨nI 0, (), rfl, rfl, by rw [ht]; exact hP, hD⟩, hS.F ht⟩
set_option maxHeartbeats 4000000 in
set_option maxRecDepth 100000 in
theorem c_W_spareNew (l : Launch) (D : va_G) (g : Nat → ClassId) (sz : Nat) (wr : va_W) (ou : Nat) (fo : Nat → Int64) (x tn ac sp oc kd M ha af w1 c1 t1 an su : Nat) (a0 : Int64) (b0 lb : Int32) (fa fs : Nat → Int32) (hcw : CodeW g kd M oc wr) (hM0 : 0 < M) (hM : M ≤ 57) (j : Nat) (hj : j < 65536) (hsu : su < 8) (hno : ∀ k, k < su → ¬ fs k = nI j) : Met l y_W_spare w_W_spare rm_W_spare (va_Pc [.ref x, .int (nI j), .ref ou] (pP D (tyl g) ((tn, .inr (5, [.long (a0), .int (b0)])) :: (x, .inr (0, [.int (nI kd), .int (nI M), .int (nI (M + ckb kd M)), .long (lN (2 ^ M - 1)), .int (nI (2 ^ ckb kd M - 1)), .ref oc, .ref tn, .int (nI ha), .int (nI af), .long (lN w1), .int (nI c1), .int (nI t1), .ref ac, .int (nI an), .int (lb), .ref sp, .int (nI su)])) :: (ac, .inl (g 0, 8, .inl (fa))) :: (sp, .inl (g 0, 8, .inl (fs))) :: (ou, .inl (g 1, 1, .inr (.inl (fo)))) :: wr) sz)) (va_Qi (fun (r : Int32) (u : Unit) => r = nI 0) (fun u => qB D (va_A ((tn, .inr (5, [.long (a0), .int (b0)])) :: (x, .inr (0, [.int (nI kd), .int (nI M), .int (nI (M + ckb kd M)), .long (lN (2 ^ M - 1)), .int (nI (2 ^ ckb kd M - 1)), .ref oc, .ref tn, .int (nI ha), .int (nI af), .long (lN w1), .int (nI c1), .int (nI t1), .ref ac, .int (nI an), .int (lb), .ref sp, .int (nI su)])) :: (ac, .inl (g 0, 8, .inl (fa))) :: (sp, .inl (g 0, 8, .inl (fs))) :: (ou, .inl (g 1, 1, .inr (.inl (fo)))) :: wr) sz) ((tn, .inr (5, [.long (a0), .int (b0)])) :: (x, .inr (0, [.int (nI kd), .int (nI M), .int (nI (M + ckb kd M)), .long (lN (2 ^ M - 1)), .int (nI (2 ^ ckb kd M - 1)), .ref oc, .ref tn, .int (nI ha), .int (nI af), .long (lN w1), .int (nI c1), .int (nI t1), .ref ac, .int (nI an), .int (lb), .ref sp, .int (nI (su + 1))])) :: (ac, .inl (g 0, 8, .inl (fa))) :: (sp, .inl (g 0, 8, .inl (upd fs su (nI j)))) :: (ou, .inl (g 1, 1, .inr (.inl (vp_updL fo 0 ((nI su).toInt64))))) :: wr)) (va_A ((tn, .inr (5, [.long (a0), .int (b0)])) :: (x, .inr (0, [.int (nI kd), .int (nI M), .int (nI (M + ckb kd M)), .long (lN (2 ^ M - 1)), .int (nI (2 ^ ckb kd M - 1)), .ref oc, .ref tn, .int (nI ha), .int (nI af), .long (lN w1), .int (nI c1), .int (nI t1), .ref ac, .int (nI an), .int (lb), .ref sp, .int (nI su)])) :: (ac, .inl (g 0, 8, .inl (fa))) :: (sp, .inl (g 0, 8, .inl (fs))) :: (ou, .inl (g 1, 1, .inr (.inl (fo)))) :: wr) sz)) 0 0 (va_A ((tn, .inr (5, [.long (a0), .int (b0)])) :: (x, .inr (0, [.int (nI kd), .int (nI M), .int (nI (M + ckb kd M)), .long (lN (2 ^ M - 1)), .int (nI (2 ^ ckb kd M - 1)), .ref oc, .ref tn, .int (nI ha), .int (nI af), .long (lN w1), .int (nI c1), .int (nI t1), .ref ac, .int (nI an), .int (lb), .ref sp, .int (nI su)])) :: (ac, .inl (g 0, 8, .inl (fa))) :: (sp, .inl (g 0, 8, .inl (fs))) :: (ou, .inl (g 1, 1, .inr (.inl (fo)))) :: wr) sz) := by
  refine va_MetW (cc := b_W_spare) (maxL := 4) (ret := (some .int)) (hh := [(0, 9, 12, 13), (0, 9, 15, 15)]) (by decide +kernel) rfl ?_
  intro p e s m args below meth c s₁ Bq hml hv
  have hx := Bq.exec
  have hb := Bq.bytes
  have hr := Bq.returns
  have htab := tabW_of (hh := [(0, 9, 12, 13), (0, 9, 15, 15)]) Bq rfl
  have hts : ∀ w ∈ wA, w.before args s = true := fun w h => atoms_spec (ws := w_W_spare) Bq.pre w (List.mem_cons_of_mem _ h)
  have hown : s.vm.findClass R_W = some m.cls := findClass_of_methodNamed Bq.named
  have hlocks := Bq.notSynchronized
  obtain ⟨rfl, hsz, hP, hKK, hD0⟩ := hv
  have hK := hKK.1
  subst hsz
  have hD := hD0.self (sz := s.heap.size)
  generalize hAe : va_A ((tn, .inr (5, [.long (a0), .int (b0)])) :: (x, .inr (0, [.int (nI kd), .int (nI M), .int (nI (M + ckb kd M)), .long (lN (2 ^ M - 1)), .int (nI (2 ^ ckb kd M - 1)), .ref oc, .ref tn, .int (nI ha), .int (nI af), .long (lN w1), .int (nI c1), .int (nI t1), .ref ac, .int (nI an), .int (lb), .ref sp, .int (nI su)])) :: (ac, .inl (g 0, 8, .inl (fa))) :: (sp, .inl (g 0, 8, .inl (fs))) :: (ou, .inl (g 1, 1, .inr (.inl (fo)))) :: wr) s.heap.size = A at hD ⊢
  have hA : ∀ q : Nat, s.heap.size ≤ q → A q := fun q h => by rw [← hAe]; exact Or.inr h
  have hS : va_S A s.heap s.heap [] := va_S.rf
  have hl := lv_entry ([.ref x, .int (nI j), .ref ou]) (n := 4) (Nat.le_of_ble_eq_true rfl)
  rw [lg_entry_eq]
  generalize (lg_sl ([.ref x, .int (nI j), .ref ou]) ++ List.replicate (4 - (lg_sl ([.ref x, .int (nI j), .ref ou])).length) Slot.unset).toArray = ls at hl ⊢
  have hl : lv_has ls 4 [(0, .ref x), (1, .int (nI j)), (2, .ref ou)] := hl
  generalize hQ : MQ below (va_Qi (fun (r : Int32) (u : Unit) => r = nI 0) (fun u => qB D (A) ((tn, .inr (5, [.long (a0), .int (b0)])) :: (x, .inr (0, [.int (nI kd), .int (nI M), .int (nI (M + ckb kd M)), .long (lN (2 ^ M - 1)), .int (nI (2 ^ ckb kd M - 1)), .ref oc, .ref tn, .int (nI ha), .int (nI af), .long (lN w1), .int (nI c1), .int (nI t1), .ref ac, .int (nI an), .int (lb), .ref sp, .int (nI (su + 1))])) :: (ac, .inl (g 0, 8, .inl (fa))) :: (sp, .inl (g 0, 8, .inl (upd fs su (nI j)))) :: (ou, .inl (g 1, 1, .inr (.inl (vp_updL fo 0 ((nI su).toInt64))))) :: wr)) (A)) [.ref x, .int (nI j), .ref ou].toArray s 0 0 A = Q
  refine lv_aload_n hx hb d_W_spare_0 rfl (lv_at hl 2 rfl) ?_
  refine lv_iconst (v := nI 0) hx hb d_W_spare_1 (by decide) ?_
  refine lv_aload_n hx hb d_W_spare_2 rfl (lv_at hl 0 rfl) ?_
  refine lv_iload_n hx hb d_W_spare_3 rfl (lv_at hl 1 rfl) ?_
  refine lc_Vi (b := x) (As := [.int (nI j)]) (rest := [.int (nI 0), .ref ou]) ⟨hx, hb, hml, hown, hts⟩ (c_C_spareNew l D g _ ((ou, .inl (g 1, 1, .inr (.inl (fo)))) :: wr) x tn ac sp oc kd M ha af w1 c1 t1 an su a0 b0 lb fa fs (hcw.cons _) hM0 hM j hj hsu hno) (kV 1 hts m_556 m_553 m_554 m_555 m_30 (by decide +kernel) ⟨Nat.le_of_ble_eq_true rfl, Nat.le_of_ble_eq_true rfl⟩) (va_recv hK hP (ci := 0) (q0 := 1) rfl rfl) hKK hP hD hS hA hl.1 rfl rfl (Nat.le_of_ble_eq_true rfl) d_W_spare_4 ⟨Nat.le_of_ble_eq_true rfl, Nat.le_of_ble_eq_true rfl⟩ (fun rr u H locs er hP hD hS => ?_)
  have hP : va_P D vwCl ((tn, .inr (5, [.long (a0), .int (b0)])) :: (x, .inr (0, [.int (nI kd), .int (nI M), .int (nI (M + ckb kd M)), .long (lN (2 ^ M - 1)), .int (nI (2 ^ ckb kd M - 1)), .ref oc, .ref tn, .int (nI ha), .int (nI af), .long (lN w1), .int (nI c1), .int (nI t1), .ref ac, .int (nI an), .int (lb), .ref sp, .int (nI (su + 1))])) :: (ac, .inl (g 0, 8, .inl (fa))) :: (sp, .inl (g 0, 8, .inl (upd fs su (nI j)))) :: (ou, .inl (g 1, 1, .inr (.inl (fo)))) :: wr) H := hP
  have hD : va_D A ((tn, .inr (5, [.long (a0), .int (b0)])) :: (x, .inr (0, [.int (nI kd), .int (nI M), .int (nI (M + ckb kd M)), .long (lN (2 ^ M - 1)), .int (nI (2 ^ ckb kd M - 1)), .ref oc, .ref tn, .int (nI ha), .int (nI af), .long (lN w1), .int (nI c1), .int (nI t1), .ref ac, .int (nI an), .int (lb), .ref sp, .int (nI (su + 1))])) :: (ac, .inl (g 0, 8, .inl (fa))) :: (sp, .inl (g 0, 8, .inl (upd fs su (nI j)))) :: (ou, .inl (g 1, 1, .inr (.inl (fo)))) :: wr) := hD
  obtain rfl : rr = nI su := er
  refine lv_i2l (v := (nI su).toInt64) hx hb d_W_spare_7 (rfl) ?_
  refine lx_last (f' := vp_updL fo 0 ((nI su).toInt64)) hx hb hK hP hD hS 4 1 rfl rfl (j := 0) (by omega) (by omega) (rfl) d_W_spare_8 (fun H locs hP hD hS => ?_)
  have hP : va_P D vwCl ((tn, .inr (5, [.long (a0), .int (b0)])) :: (x, .inr (0, [.int (nI kd), .int (nI M), .int (nI (M + ckb kd M)), .long (lN (2 ^ M - 1)), .int (nI (2 ^ ckb kd M - 1)), .ref oc, .ref tn, .int (nI ha), .int (nI af), .long (lN w1), .int (nI c1), .int (nI t1), .ref ac, .int (nI an), .int (lb), .ref sp, .int (nI (su + 1))])) :: (ac, .inl (g 0, 8, .inl (fa))) :: (sp, .inl (g 0, 8, .inl (upd fs su (nI j)))) :: (ou, .inl (g 1, 1, .inr (.inl (vp_updL fo 0 ((nI su).toInt64))))) :: wr) H := hP
  have hD : va_D A ((tn, .inr (5, [.long (a0), .int (b0)])) :: (x, .inr (0, [.int (nI kd), .int (nI M), .int (nI (M + ckb kd M)), .long (lN (2 ^ M - 1)), .int (nI (2 ^ ckb kd M - 1)), .ref oc, .ref tn, .int (nI ha), .int (nI af), .long (lN w1), .int (nI c1), .int (nI t1), .ref ac, .int (nI an), .int (lb), .ref sp, .int (nI (su + 1))])) :: (ac, .inl (g 0, 8, .inl (fa))) :: (sp, .inl (g 0, 8, .inl (upd fs su (nI j)))) :: (ou, .inl (g 1, 1, .inr (.inl (vp_updL fo 0 ((nI su).toInt64))))) :: wr) := hD
  refine lv_goto (tgt := 18) hx hb d_W_spare_9 (by decide) ?_
  refine lv_iconst (v := nI 0) hx hb d_W_spare_18 (by decide) ?_
  rw [← hQ]
  refine W.iret (v := nI 0) hx hb hr ?_ hS.2.2 d_W_spare_19
  exact fun t ht hW => ⟨⟨nI 0, (), rfl, rfl, by rw [ht]; exact hP, hD⟩, hS.F ht⟩
set_option maxHeartbeats 4000000 in
set_option maxRecDepth 100000 in
theorem t_W_spare (l : Launch) (hlt : l.stackTraces = false) (D : va_G) (g : Nat → ClassId) (sz : Nat) (wr : va_W) (ou : Nat) (fo : Nat → Int64) (x tn ac sp oc kd M ha af w1 c1 t1 an su : Nat) (a0 : Int64) (b0 lb : Int32) (fa fs : Nat → Int32) (hM0 : 0 < M) (hM : M ≤ 57) (v : Int32) (hv9 : inBb 65536 v = 0) : Met l y_W_spare w_W_spare rt_W_spare (va_Pc [.ref x, .int (v), .ref ou] (pPW D (tyl g) ((tn, .inr (5, [.long (a0), .int (b0)])) :: (x, .inr (0, [.int (nI kd), .int (nI M), .int (nI (M + ckb kd M)), .long (lN (2 ^ M - 1)), .int (nI (2 ^ ckb kd M - 1)), .ref oc, .ref tn, .int (nI ha), .int (nI af), .long (lN w1), .int (nI c1), .int (nI t1), .ref ac, .int (nI an), .int (lb), .ref sp, .int (nI su)])) :: (ac, .inl (g 0, 8, .inl (fa))) :: (sp, .inl (g 0, 8, .inl (fs))) :: (ou, .inl (g 1, 1, .inr (.inl (fo)))) :: wr) sz)) (va_Qi (fun (r : Int32) (u : Unit) => r = nI 1) (fun _ _ => True) (fun q : Nat => sz ≤ q)) 1 6 (fun q : Nat => sz ≤ q) := by
  refine va_MetW (cc := b_W_spare) (maxL := 4) (ret := (some .int)) (hh := [(0, 9, 12, 13), (0, 9, 15, 15)]) (by decide +kernel) rfl ?_
  intro p e s m args below meth c s₁ Bq hml hv
  have hx := Bq.exec
  have hb := Bq.bytes
  have hr := Bq.returns
  have htab := tabW_of (hh := [(0, 9, 12, 13), (0, 9, 15, 15)]) Bq rfl
  have hts : ∀ w ∈ wA, w.before args s = true := fun w h => atoms_spec (ws := w_W_spare) Bq.pre w (List.mem_cons_of_mem _ h)
  have hown : s.vm.findClass R_W = some m.cls := findClass_of_methodNamed Bq.named
  have hlocks := Bq.notSynchronized
  obtain ⟨rfl, ⟨hsz, hP, hKK, hD0⟩, hTN, hTS⟩ := hv
  have hK := hKK.1
  subst hsz
  have hD := hD0
  generalize hAe : (fun q : Nat => s.heap.size ≤ q) = A
  have hA : ∀ q : Nat, s.heap.size ≤ q → A q := fun q h => by rw [← hAe]; exact h
  have hS : va_S A s.heap s.heap [] := va_S.rf
  have hl := lv_entry ([.ref x, .int (v), .ref ou]) (n := 4) (Nat.le_of_ble_eq_true rfl)
  rw [lg_entry_eq]
  generalize (lg_sl ([.ref x, .int (v), .ref ou]) ++ List.replicate (4 - (lg_sl ([.ref x, .int (v), .ref ou])).length) Slot.unset).toArray = ls at hl ⊢
  have hl : lv_has ls 4 [(0, .ref x), (1, .int (v)), (2, .ref ou)] := hl
  generalize hQ : MQ below (va_Qi (fun (r : Int32) (u : Unit) => r = nI 1) (fun _ _ => True) (A)) [.ref x, .int (v), .ref ou].toArray s 1 6 A = Q
  have hRc : (headSpec w_W_spare rt_W_spare).room.cells = 1 := rfl
  have hRs : (headSpec w_W_spare rt_W_spare).room.slots = 6 := rfl
  refine lv_aload_n hx hb d_W_spare_0 rfl (lv_at hl 2 rfl) ?_
  refine lv_iconst (v := nI 0) hx hb d_W_spare_1 (by decide) ?_
  refine lv_aload_n hx hb d_W_spare_2 rfl (lv_at hl 0 rfl) ?_
  refine lv_iload_n hx hb d_W_spare_3 rfl (lv_at hl 1 rfl) ?_
  refine lt_cv1 (b := x) (As := [.int (v)]) (rest := [.int (nI 0), .ref ou]) ⟨hx, hb, hml, hown, hts⟩ (t_C_spare l hlt D g _ ((ou, .inl (g 1, 1, .inr (.inl (fo)))) :: wr) x tn ac sp oc kd M ha af w1 c1 t1 an su a0 b0 lb fa fs hM0 hM v hv9) (kV 1 hts m_556 m_553 m_554 m_555 m_30 (by decide +kernel) ⟨Nat.le_of_ble_eq_true rfl, Nat.le_of_ble_eq_true rfl⟩) ⟨pPT_blind _ _ _ _ _, va_recv hK hP (ci := 0) (q0 := 1) rfl rfl, fun U hU hW => ⟨rfl, pPT_of hU hW hP hKK hD hTN.1 hTS⟩⟩ hS hA hl.1 rfl rfl (Nat.le_of_ble_eq_true rfl) d_W_spare_4 ⟨Nat.le_of_ble_eq_true rfl, Nat.le_of_ble_eq_true rfl⟩ htab ⟨by decide, by decide⟩ (by decide) (hts _ m_311) (va_Nw.use rfl (hTN.1.2.1 exI (by simp))) (fun q9 H locs hS => ?_)
  refine lv_astore_n (lv' := [(3, .ref q9), (0, .ref x), (1, .int (v)), (2, .ref ou)]) hx hb d_W_spare_12 rfl hl (by decide) rfl (fun ls hl => ?_)
  refine lv_iconst (v := nI 1) hx hb d_W_spare_13 (by decide) ?_
  refine W.widen (k := 1) (n := 6) (by omega) (by omega) ?_
  rw [← hQ]
  refine W.iret (v := nI 1) hx hb hr ?_ hS.2.2 d_W_spare_14
  exact fun t ht hW => ⟨⟨nI 1, (), rfl, rfl, trivial⟩, hS.F ht⟩
set_option maxHeartbeats 4000000 in
set_option maxRecDepth 100000 in
theorem u_W_spare (l : Launch) (hlt : l.stackTraces = false) (D : va_G) (g : Nat → ClassId) (sz : Nat) (wr : va_W) (ou : Nat) (fo : Nat → Int64) (x tn ac sp oc kd M ha af w1 c1 t1 an su : Nat) (a0 : Int64) (b0 lb : Int32) (fa fs : Nat → Int32) (hM0 : 0 < M) (hM : M ≤ 57) (j : Nat) (hj : j < 65536) (hsu : su = 8) (hno : ∀ k, k < su → ¬ fs k = nI j) : Met l y_W_spare w_W_spare rt_W_spare (va_Pc [.ref x, .int (nI j), .ref ou] (pPW D (tyl g) ((tn, .inr (5, [.long (a0), .int (b0)])) :: (x, .inr (0, [.int (nI kd), .int (nI M), .int (nI (M + ckb kd M)), .long (lN (2 ^ M - 1)), .int (nI (2 ^ ckb kd M - 1)), .ref oc, .ref tn, .int (nI ha), .int (nI af), .long (lN w1), .int (nI c1), .int (nI t1), .ref ac, .int (nI an), .int (lb), .ref sp, .int (nI su)])) :: (ac, .inl (g 0, 8, .inl (fa))) :: (sp, .inl (g 0, 8, .inl (fs))) :: (ou, .inl (g 1, 1, .inr (.inl (fo)))) :: wr) sz)) (va_Qi (fun (r : Int32) (u : Unit) => r = nI 2) (fun _ _ => True) (fun q : Nat => sz ≤ q)) 1 6 (fun q : Nat => sz ≤ q) := by
  refine va_MetW (cc := b_W_spare) (maxL := 4) (ret := (some .int)) (hh := [(0, 9, 12, 13), (0, 9, 15, 15)]) (by decide +kernel) rfl ?_
  intro p e s m args below meth c s₁ Bq hml hv
  have hx := Bq.exec
  have hb := Bq.bytes
  have hr := Bq.returns
  have htab := tabW_of (hh := [(0, 9, 12, 13), (0, 9, 15, 15)]) Bq rfl
  have hts : ∀ w ∈ wA, w.before args s = true := fun w h => atoms_spec (ws := w_W_spare) Bq.pre w (List.mem_cons_of_mem _ h)
  have hown : s.vm.findClass R_W = some m.cls := findClass_of_methodNamed Bq.named
  have hlocks := Bq.notSynchronized
  obtain ⟨rfl, ⟨hsz, hP, hKK, hD0⟩, hTN, hTS⟩ := hv
  have hK := hKK.1
  subst hsz
  have hD := hD0
  generalize hAe : (fun q : Nat => s.heap.size ≤ q) = A
  have hA : ∀ q : Nat, s.heap.size ≤ q → A q := fun q h => by rw [← hAe]; exact h
  have hS : va_S A s.heap s.heap [] := va_S.rf
  have hl := lv_entry ([.ref x, .int (nI j), .ref ou]) (n := 4) (Nat.le_of_ble_eq_true rfl)
  rw [lg_entry_eq]
  generalize (lg_sl ([.ref x, .int (nI j), .ref ou]) ++ List.replicate (4 - (lg_sl ([.ref x, .int (nI j), .ref ou])).length) Slot.unset).toArray = ls at hl ⊢
  have hl : lv_has ls 4 [(0, .ref x), (1, .int (nI j)), (2, .ref ou)] := hl
  generalize hQ : MQ below (va_Qi (fun (r : Int32) (u : Unit) => r = nI 2) (fun _ _ => True) (A)) [.ref x, .int (nI j), .ref ou].toArray s 1 6 A = Q
  have hRc : (headSpec w_W_spare rt_W_spare).room.cells = 1 := rfl
  have hRs : (headSpec w_W_spare rt_W_spare).room.slots = 6 := rfl
  refine lv_aload_n hx hb d_W_spare_0 rfl (lv_at hl 2 rfl) ?_
  refine lv_iconst (v := nI 0) hx hb d_W_spare_1 (by decide) ?_
  refine lv_aload_n hx hb d_W_spare_2 rfl (lv_at hl 0 rfl) ?_
  refine lv_iload_n hx hb d_W_spare_3 rfl (lv_at hl 1 rfl) ?_
  refine lt_cv2 (b := x) (As := [.int (nI j)]) (rest := [.int (nI 0), .ref ou]) ⟨hx, hb, hml, hown, hts⟩ (u_C_spare l hlt D g _ ((ou, .inl (g 1, 1, .inr (.inl (fo)))) :: wr) x tn ac sp oc kd M ha af w1 c1 t1 an su a0 b0 lb fa fs hM0 hM j hj hsu hno) (kV 1 hts m_556 m_553 m_554 m_555 m_30 (by decide +kernel) ⟨Nat.le_of_ble_eq_true rfl, Nat.le_of_ble_eq_true rfl⟩) ⟨pPT_blind _ _ _ _ _, va_recv hK hP (ci := 0) (q0 := 1) rfl rfl, fun U hU hW => ⟨rfl, pPT_of hU hW hP hKK hD hTN.1 hTS⟩⟩ hS hA hl.1 rfl rfl (Nat.le_of_ble_eq_true rfl) d_W_spare_4 ⟨Nat.le_of_ble_eq_true rfl, Nat.le_of_ble_eq_true rfl⟩ htab (by decide) (hts _ m_311) hTN.2 ⟨by decide, by decide⟩ (by decide) (hts _ m_312) (va_Nw.use rfl (hTN.1.2.1 exU (by simp))) (fun q9 H locs hS => ?_)
  refine lv_astore_n (lv' := [(3, .ref q9), (0, .ref x), (1, .int (nI j)), (2, .ref ou)]) hx hb d_W_spare_15 rfl hl (by decide) rfl (fun ls hl => ?_)
  refine lv_iconst (v := nI 2) hx hb d_W_spare_16 (by decide) ?_
  refine W.widen (k := 1) (n := 6) (by omega) (by omega) ?_
  rw [← hQ]
  refine W.iret (v := nI 2) hx hb hr ?_ hS.2.2 d_W_spare_17
  exact fun t ht hW => ⟨⟨nI 2, (), rfl, rfl, trivial⟩, hS.F ht⟩
set_option maxHeartbeats 4000000 in
set_option maxRecDepth 100000 in
theorem c_W_spareOf (l : Launch) (D : va_G) (g : Nat → ClassId) (sz : Nat) (wr : va_W) (ou : Nat) (fo : Nat → Int64) (x tn ac sp oc kd M ha af w1 c1 t1 an su : Nat) (a0 : Int64) (b0 lb : Int32) (fa fs : Nat → Int32) (hcw : CodeW g kd M oc wr) (hM0 : 0 < M) (hM : M ≤ 57) (j : Nat) (hj : j < 65536) (hsu : su ≤ 8) : Met l y_W_spareOf w_W_spareOf rm_W_spareOf (va_Pc [.ref x, .int (nI j), .ref ou] (pP D (tyl g) ((tn, .inr (5, [.long (a0), .int (b0)])) :: (x, .inr (0, [.int (nI kd), .int (nI M), .int (nI (M + ckb kd M)), .long (lN (2 ^ M - 1)), .int (nI (2 ^ ckb kd M - 1)), .ref oc, .ref tn, .int (nI ha), .int (nI af), .long (lN w1), .int (nI c1), .int (nI t1), .ref ac, .int (nI an), .int (lb), .ref sp, .int (nI su)])) :: (ac, .inl (g 0, 8, .inl (fa))) :: (sp, .inl (g 0, 8, .inl (fs))) :: (ou, .inl (g 1, 1, .inr (.inl (fo)))) :: wr) sz)) (va_Qi (fun (r : Int32) (u : Int32) => r = nI 0 ∧ ((∃ i, i < su ∧ u = nI i ∧ fs i = nI j ∧ ∀ i9, i9 < i → ¬ fs i9 = nI j) ∨ (u = -1 ∧ ∀ i9, i9 < su → ¬ fs i9 = nI j))) (fun u => qB D (va_A ((tn, .inr (5, [.long (a0), .int (b0)])) :: (x, .inr (0, [.int (nI kd), .int (nI M), .int (nI (M + ckb kd M)), .long (lN (2 ^ M - 1)), .int (nI (2 ^ ckb kd M - 1)), .ref oc, .ref tn, .int (nI ha), .int (nI af), .long (lN w1), .int (nI c1), .int (nI t1), .ref ac, .int (nI an), .int (lb), .ref sp, .int (nI su)])) :: (ac, .inl (g 0, 8, .inl (fa))) :: (sp, .inl (g 0, 8, .inl (fs))) :: (ou, .inl (g 1, 1, .inr (.inl (fo)))) :: wr) sz) ((tn, .inr (5, [.long (a0), .int (b0)])) :: (x, .inr (0, [.int (nI kd), .int (nI M), .int (nI (M + ckb kd M)), .long (lN (2 ^ M - 1)), .int (nI (2 ^ ckb kd M - 1)), .ref oc, .ref tn, .int (nI ha), .int (nI af), .long (lN w1), .int (nI c1), .int (nI t1), .ref ac, .int (nI an), .int (lb), .ref sp, .int (nI su)])) :: (ac, .inl (g 0, 8, .inl (fa))) :: (sp, .inl (g 0, 8, .inl (fs))) :: (ou, .inl (g 1, 1, .inr (.inl (vp_updL fo 0 (u.toInt64))))) :: wr)) (va_A ((tn, .inr (5, [.long (a0), .int (b0)])) :: (x, .inr (0, [.int (nI kd), .int (nI M), .int (nI (M + ckb kd M)), .long (lN (2 ^ M - 1)), .int (nI (2 ^ ckb kd M - 1)), .ref oc, .ref tn, .int (nI ha), .int (nI af), .long (lN w1), .int (nI c1), .int (nI t1), .ref ac, .int (nI an), .int (lb), .ref sp, .int (nI su)])) :: (ac, .inl (g 0, 8, .inl (fa))) :: (sp, .inl (g 0, 8, .inl (fs))) :: (ou, .inl (g 1, 1, .inr (.inl (fo)))) :: wr) sz)) 0 0 (va_A ((tn, .inr (5, [.long (a0), .int (b0)])) :: (x, .inr (0, [.int (nI kd), .int (nI M), .int (nI (M + ckb kd M)), .long (lN (2 ^ M - 1)), .int (nI (2 ^ ckb kd M - 1)), .ref oc, .ref tn, .int (nI ha), .int (nI af), .long (lN w1), .int (nI c1), .int (nI t1), .ref ac, .int (nI an), .int (lb), .ref sp, .int (nI su)])) :: (ac, .inl (g 0, 8, .inl (fa))) :: (sp, .inl (g 0, 8, .inl (fs))) :: (ou, .inl (g 1, 1, .inr (.inl (fo)))) :: wr) sz) := by
  refine va_MetW (cc := b_W_spareOf) (maxL := 4) (ret := (some .int)) (hh := [(0, 9, 12, 13)]) (by decide +kernel) rfl ?_
  intro p e s m args below meth c s₁ Bq hml hv
  have hx := Bq.exec
  have hb := Bq.bytes
  have hr := Bq.returns
  have htab := tabW_of (hh := [(0, 9, 12, 13)]) Bq rfl
  have hts : ∀ w ∈ wA, w.before args s = true := fun w h => atoms_spec (ws := w_W_spareOf) Bq.pre w (List.mem_cons_of_mem _ h)
  have hown : s.vm.findClass R_W = some m.cls := findClass_of_methodNamed Bq.named
  have hlocks := Bq.notSynchronized
  obtain ⟨rfl, hsz, hP, hKK, hD0⟩ := hv
  have hK := hKK.1
  subst hsz
  have hD := hD0.self (sz := s.heap.size)
  generalize hAe : va_A ((tn, .inr (5, [.long (a0), .int (b0)])) :: (x, .inr (0, [.int (nI kd), .int (nI M), .int (nI (M + ckb kd M)), .long (lN (2 ^ M - 1)), .int (nI (2 ^ ckb kd M - 1)), .ref oc, .ref tn, .int (nI ha), .int (nI af), .long (lN w1), .int (nI c1), .int (nI t1), .ref ac, .int (nI an), .int (lb), .ref sp, .int (nI su)])) :: (ac, .inl (g 0, 8, .inl (fa))) :: (sp, .inl (g 0, 8, .inl (fs))) :: (ou, .inl (g 1, 1, .inr (.inl (fo)))) :: wr) s.heap.size = A at hD ⊢
  have hA : ∀ q : Nat, s.heap.size ≤ q → A q := fun q h => by rw [← hAe]; exact Or.inr h
  have hS : va_S A s.heap s.heap [] := va_S.rf
  have hl := lv_entry ([.ref x, .int (nI j), .ref ou]) (n := 4) (Nat.le_of_ble_eq_true rfl)
  rw [lg_entry_eq]
  generalize (lg_sl ([.ref x, .int (nI j), .ref ou]) ++ List.replicate (4 - (lg_sl ([.ref x, .int (nI j), .ref ou])).length) Slot.unset).toArray = ls at hl ⊢
  have hl : lv_has ls 4 [(0, .ref x), (1, .int (nI j)), (2, .ref ou)] := hl
  generalize hQ : MQ below (va_Qi (fun (r : Int32) (u : Int32) => r = nI 0 ∧ ((∃ i, i < su ∧ u = nI i ∧ fs i = nI j ∧ ∀ i9, i9 < i → ¬ fs i9 = nI j) ∨ (u = -1 ∧ ∀ i9, i9 < su → ¬ fs i9 = nI j))) (fun u => qB D (A) ((tn, .inr (5, [.long (a0), .int (b0)])) :: (x, .inr (0, [.int (nI kd), .int (nI M), .int (nI (M + ckb kd M)), .long (lN (2 ^ M - 1)), .int (nI (2 ^ ckb kd M - 1)), .ref oc, .ref tn, .int (nI ha), .int (nI af), .long (lN w1), .int (nI c1), .int (nI t1), .ref ac, .int (nI an), .int (lb), .ref sp, .int (nI su)])) :: (ac, .inl (g 0, 8, .inl (fa))) :: (sp, .inl (g 0, 8, .inl (fs))) :: (ou, .inl (g 1, 1, .inr (.inl (vp_updL fo 0 (u.toInt64))))) :: wr)) (A)) [.ref x, .int (nI j), .ref ou].toArray s 0 0 A = Q
  refine lv_aload_n hx hb d_W_spareOf_0 rfl (lv_at hl 2 rfl) ?_
  refine lv_iconst (v := nI 0) hx hb d_W_spareOf_1 (by decide) ?_
  refine lv_aload_n hx hb d_W_spareOf_2 rfl (lv_at hl 0 rfl) ?_
  refine lv_iload_n hx hb d_W_spareOf_3 rfl (lv_at hl 1 rfl) ?_
  refine lc_Vi (b := x) (As := [.int (nI j)]) (rest := [.int (nI 0), .ref ou]) ⟨hx, hb, hml, hown, hts⟩ (c_C_spareOf l D g _ ((ou, .inl (g 1, 1, .inr (.inl (fo)))) :: wr) x tn ac sp oc kd M ha af w1 c1 t1 an su a0 b0 lb fa fs (hcw.cons _) hM0 hM j hj hsu) (kV 1 hts m_573 m_570 m_571 m_572 m_30 (by decide +kernel) ⟨Nat.le_of_ble_eq_true rfl, Nat.le_of_ble_eq_true rfl⟩) (va_recv hK hP (ci := 0) (q0 := 1) rfl rfl) hKK hP hD hS hA hl.1 rfl rfl (Nat.le_of_ble_eq_true rfl) d_W_spareOf_4 ⟨Nat.le_of_ble_eq_true rfl, Nat.le_of_ble_eq_true rfl⟩ (fun rr u H locs er hP hD hS => ?_)
  refine lv_i2l (v := rr.toInt64) hx hb d_W_spareOf_7 (rfl) ?_
  refine lx_last (f' := vp_updL fo 0 (rr.toInt64)) hx hb hK hP hD hS 4 1 rfl rfl (j := 0) (by omega) (by omega) (rfl) d_W_spareOf_8 (fun H locs hP hD hS => ?_)
  have hP : va_P D vwCl ((tn, .inr (5, [.long (a0), .int (b0)])) :: (x, .inr (0, [.int (nI kd), .int (nI M), .int (nI (M + ckb kd M)), .long (lN (2 ^ M - 1)), .int (nI (2 ^ ckb kd M - 1)), .ref oc, .ref tn, .int (nI ha), .int (nI af), .long (lN w1), .int (nI c1), .int (nI t1), .ref ac, .int (nI an), .int (lb), .ref sp, .int (nI su)])) :: (ac, .inl (g 0, 8, .inl (fa))) :: (sp, .inl (g 0, 8, .inl (fs))) :: (ou, .inl (g 1, 1, .inr (.inl (vp_updL fo 0 (rr.toInt64))))) :: wr) H := hP
  have hD : va_D A ((tn, .inr (5, [.long (a0), .int (b0)])) :: (x, .inr (0, [.int (nI kd), .int (nI M), .int (nI (M + ckb kd M)), .long (lN (2 ^ M - 1)), .int (nI (2 ^ ckb kd M - 1)), .ref oc, .ref tn, .int (nI ha), .int (nI af), .long (lN w1), .int (nI c1), .int (nI t1), .ref ac, .int (nI an), .int (lb), .ref sp, .int (nI su)])) :: (ac, .inl (g 0, 8, .inl (fa))) :: (sp, .inl (g 0, 8, .inl (fs))) :: (ou, .inl (g 1, 1, .inr (.inl (vp_updL fo 0 (rr.toInt64))))) :: wr) := hD
  refine lv_goto (tgt := 15) hx hb d_W_spareOf_9 (by decide) ?_
  refine lv_iconst (v := nI 0) hx hb d_W_spareOf_15 (by decide) ?_
  rw [← hQ]
  refine W.iret (v := nI 0) hx hb hr ?_ hS.2.2 d_W_spareOf_16
  exact fun t ht hW => ⟨⟨nI 0, rr, rfl, ⟨rfl, er⟩, by rw [ht]; exact hP, hD⟩, hS.F ht⟩
set_option maxHeartbeats 4000000 in
set_option maxRecDepth 100000 in
theorem t_W_spareOf (l : Launch) (hlt : l.stackTraces = false) (D : va_G) (g : Nat → ClassId) (sz : Nat) (wr : va_W) (ou : Nat) (fo : Nat → Int64) (x tn ac sp oc kd M ha af w1 c1 t1 an su : Nat) (a0 : Int64) (b0 lb : Int32) (fa fs : Nat → Int32) (hM0 : 0 < M) (hM : M ≤ 57) (v : Int32) (hv9 : inBb 65536 v = 0) : Met l y_W_spareOf w_W_spareOf rt_W_spareOf (va_Pc [.ref x, .int (v), .ref ou] (pPW D (tyl g) ((tn, .inr (5, [.long (a0), .int (b0)])) :: (x, .inr (0, [.int (nI kd), .int (nI M), .int (nI (M + ckb kd M)), .long (lN (2 ^ M - 1)), .int (nI (2 ^ ckb kd M - 1)), .ref oc, .ref tn, .int (nI ha), .int (nI af), .long (lN w1), .int (nI c1), .int (nI t1), .ref ac, .int (nI an), .int (lb), .ref sp, .int (nI su)])) :: (ac, .inl (g 0, 8, .inl (fa))) :: (sp, .inl (g 0, 8, .inl (fs))) :: (ou, .inl (g 1, 1, .inr (.inl (fo)))) :: wr) sz)) (va_Qi (fun (r : Int32) (u : Unit) => r = nI 1) (fun _ _ => True) (fun q : Nat => sz ≤ q)) 1 6 (fun q : Nat => sz ≤ q) := by
  refine va_MetW (cc := b_W_spareOf) (maxL := 4) (ret := (some .int)) (hh := [(0, 9, 12, 13)]) (by decide +kernel) rfl ?_
  intro p e s m args below meth c s₁ Bq hml hv
  have hx := Bq.exec
  have hb := Bq.bytes
  have hr := Bq.returns
  have htab := tabW_of (hh := [(0, 9, 12, 13)]) Bq rfl
  have hts : ∀ w ∈ wA, w.before args s = true := fun w h => atoms_spec (ws := w_W_spareOf) Bq.pre w (List.mem_cons_of_mem _ h)
  have hown : s.vm.findClass R_W = some m.cls := findClass_of_methodNamed Bq.named
  have hlocks := Bq.notSynchronized
  obtain ⟨rfl, ⟨hsz, hP, hKK, hD0⟩, hTN, hTS⟩ := hv
  have hK := hKK.1
  subst hsz
  have hD := hD0
  generalize hAe : (fun q : Nat => s.heap.size ≤ q) = A
  have hA : ∀ q : Nat, s.heap.size ≤ q → A q := fun q h => by rw [← hAe]; exact h
  have hS : va_S A s.heap s.heap [] := va_S.rf
  have hl := lv_entry ([.ref x, .int (v), .ref ou]) (n := 4) (Nat.le_of_ble_eq_true rfl)
  rw [lg_entry_eq]
  generalize (lg_sl ([.ref x, .int (v), .ref ou]) ++ List.replicate (4 - (lg_sl ([.ref x, .int (v), .ref ou])).length) Slot.unset).toArray = ls at hl ⊢
  have hl : lv_has ls 4 [(0, .ref x), (1, .int (v)), (2, .ref ou)] := hl
  generalize hQ : MQ below (va_Qi (fun (r : Int32) (u : Unit) => r = nI 1) (fun _ _ => True) (A)) [.ref x, .int (v), .ref ou].toArray s 1 6 A = Q
  have hRc : (headSpec w_W_spareOf rt_W_spareOf).room.cells = 1 := rfl
  have hRs : (headSpec w_W_spareOf rt_W_spareOf).room.slots = 6 := rfl
  refine lv_aload_n hx hb d_W_spareOf_0 rfl (lv_at hl 2 rfl) ?_
  refine lv_iconst (v := nI 0) hx hb d_W_spareOf_1 (by decide) ?_
  refine lv_aload_n hx hb d_W_spareOf_2 rfl (lv_at hl 0 rfl) ?_
  refine lv_iload_n hx hb d_W_spareOf_3 rfl (lv_at hl 1 rfl) ?_
  refine lt_cv1 (b := x) (As := [.int (v)]) (rest := [.int (nI 0), .ref ou]) ⟨hx, hb, hml, hown, hts⟩ (t_C_spareOf l hlt D g _ ((ou, .inl (g 1, 1, .inr (.inl (fo)))) :: wr) x tn ac sp oc kd M ha af w1 c1 t1 an su a0 b0 lb fa fs hM0 hM v hv9) (kV 1 hts m_573 m_570 m_571 m_572 m_30 (by decide +kernel) ⟨Nat.le_of_ble_eq_true rfl, Nat.le_of_ble_eq_true rfl⟩) ⟨pPT_blind _ _ _ _ _, va_recv hK hP (ci := 0) (q0 := 1) rfl rfl, fun U hU hW => ⟨rfl, pPT_of hU hW hP hKK hD hTN.1 hTS⟩⟩ hS hA hl.1 rfl rfl (Nat.le_of_ble_eq_true rfl) d_W_spareOf_4 ⟨Nat.le_of_ble_eq_true rfl, Nat.le_of_ble_eq_true rfl⟩ htab ⟨by decide, by decide⟩ (by decide) (hts _ m_311) (va_Nw.use rfl (hTN.1.2.1 exI (by simp))) (fun q9 H locs hS => ?_)
  refine lv_astore_n (lv' := [(3, .ref q9), (0, .ref x), (1, .int (v)), (2, .ref ou)]) hx hb d_W_spareOf_12 rfl hl (by decide) rfl (fun ls hl => ?_)
  refine lv_iconst (v := nI 1) hx hb d_W_spareOf_13 (by decide) ?_
  refine W.widen (k := 1) (n := 6) (by omega) (by omega) ?_
  rw [← hQ]
  refine W.iret (v := nI 1) hx hb hr ?_ hS.2.2 d_W_spareOf_14
  exact fun t ht hW => ⟨⟨nI 1, (), rfl, rfl, trivial⟩, hS.F ht⟩
set_option maxHeartbeats 4000000 in
set_option maxRecDepth 100000 in
theorem c_W_share (l : Launch) (D : va_G) (g : Nat → ClassId) (sz : Nat) (wr : va_W) (ou : Nat) (fo : Nat → Int64) (x tn ac sp oc kd M ha af w1 c1 t1 an su : Nat) (a0 : Int64) (b0 lb : Int32) (fa fs : Nat → Int32) (hcw : CodeW g kd M oc wr) (hM0 : 0 < M) (hM : M ≤ 57) (k : Nat) (hk9 : k ≤ 1) (han : (an = 0 ∧ fa = fun _ => nI 0) ∨ (an = 1 ∧ fa = fun i => nI (tbl (pairA kd M) (M + ckb kd M) (M + ckb kd M) i))) : Met l y_W_share w_W_share rm_W_share (va_Pc [.ref x, .int (nI k), .ref ou] (pP D (tyl g) ((tn, .inr (5, [.long (a0), .int (b0)])) :: (x, .inr (0, [.int (nI kd), .int (nI M), .int (nI (M + ckb kd M)), .long (lN (2 ^ M - 1)), .int (nI (2 ^ ckb kd M - 1)), .ref oc, .ref tn, .int (nI ha), .int (nI af), .long (lN w1), .int (nI c1), .int (nI t1), .ref ac, .int (nI an), .int (lb), .ref sp, .int (nI su)])) :: (ac, .inl (g 0, 8, .inl (fa))) :: (sp, .inl (g 0, 8, .inl (fs))) :: (ou, .inl (g 1, 1, .inr (.inl (fo)))) :: wr) sz)) (va_Qi (fun (r : Int32) (u : (Int64 × Int32)) => r = nI 0) (fun u => qB D (va_A ((tn, .inr (5, [.long (a0), .int (b0)])) :: (x, .inr (0, [.int (nI kd), .int (nI M), .int (nI (M + ckb kd M)), .long (lN (2 ^ M - 1)), .int (nI (2 ^ ckb kd M - 1)), .ref oc, .ref tn, .int (nI ha), .int (nI af), .long (lN w1), .int (nI c1), .int (nI t1), .ref ac, .int (nI an), .int (lb), .ref sp, .int (nI su)])) :: (ac, .inl (g 0, 8, .inl (fa))) :: (sp, .inl (g 0, 8, .inl (fs))) :: (ou, .inl (g 1, 1, .inr (.inl (fo)))) :: wr) sz) ((tn, .inr (5, [.long (u.1), .int (u.2)])) :: (x, .inr (0, [.int (nI kd), .int (nI M), .int (nI (M + ckb kd M)), .long (lN (2 ^ M - 1)), .int (nI (2 ^ ckb kd M - 1)), .ref oc, .ref tn, .int (nI ha), .int (nI af), .long (lN w1), .int (nI c1), .int (nI t1), .ref ac, .int (nI 1), .int (lb), .ref sp, .int (nI su)])) :: (ac, .inl (g 0, 8, .inl (fun i => nI (tbl (pairA kd M) (M + ckb kd M) (M + ckb kd M) i)))) :: (sp, .inl (g 0, 8, .inl (fs))) :: (ou, .inl (g 1, 1, .inr (.inl (vp_updL fo 0 ((nI (shr kd M k)).toInt64))))) :: wr)) (va_A ((tn, .inr (5, [.long (a0), .int (b0)])) :: (x, .inr (0, [.int (nI kd), .int (nI M), .int (nI (M + ckb kd M)), .long (lN (2 ^ M - 1)), .int (nI (2 ^ ckb kd M - 1)), .ref oc, .ref tn, .int (nI ha), .int (nI af), .long (lN w1), .int (nI c1), .int (nI t1), .ref ac, .int (nI an), .int (lb), .ref sp, .int (nI su)])) :: (ac, .inl (g 0, 8, .inl (fa))) :: (sp, .inl (g 0, 8, .inl (fs))) :: (ou, .inl (g 1, 1, .inr (.inl (fo)))) :: wr) sz)) 0 0 (va_A ((tn, .inr (5, [.long (a0), .int (b0)])) :: (x, .inr (0, [.int (nI kd), .int (nI M), .int (nI (M + ckb kd M)), .long (lN (2 ^ M - 1)), .int (nI (2 ^ ckb kd M - 1)), .ref oc, .ref tn, .int (nI ha), .int (nI af), .long (lN w1), .int (nI c1), .int (nI t1), .ref ac, .int (nI an), .int (lb), .ref sp, .int (nI su)])) :: (ac, .inl (g 0, 8, .inl (fa))) :: (sp, .inl (g 0, 8, .inl (fs))) :: (ou, .inl (g 1, 1, .inr (.inl (fo)))) :: wr) sz) := by
  refine va_MetW (cc := b_W_share) (maxL := 4) (ret := (some .int)) (hh := [(0, 9, 12, 13)]) (by decide +kernel) rfl ?_
  intro p e s m args below meth c s₁ Bq hml hv
  have hx := Bq.exec
  have hb := Bq.bytes
  have hr := Bq.returns
  have htab := tabW_of (hh := [(0, 9, 12, 13)]) Bq rfl
  have hts : ∀ w ∈ wA, w.before args s = true := fun w h => atoms_spec (ws := w_W_share) Bq.pre w (List.mem_cons_of_mem _ h)
  have hown : s.vm.findClass R_W = some m.cls := findClass_of_methodNamed Bq.named
  have hlocks := Bq.notSynchronized
  obtain ⟨rfl, hsz, hP, hKK, hD0⟩ := hv
  have hK := hKK.1
  subst hsz
  have hD := hD0.self (sz := s.heap.size)
  generalize hAe : va_A ((tn, .inr (5, [.long (a0), .int (b0)])) :: (x, .inr (0, [.int (nI kd), .int (nI M), .int (nI (M + ckb kd M)), .long (lN (2 ^ M - 1)), .int (nI (2 ^ ckb kd M - 1)), .ref oc, .ref tn, .int (nI ha), .int (nI af), .long (lN w1), .int (nI c1), .int (nI t1), .ref ac, .int (nI an), .int (lb), .ref sp, .int (nI su)])) :: (ac, .inl (g 0, 8, .inl (fa))) :: (sp, .inl (g 0, 8, .inl (fs))) :: (ou, .inl (g 1, 1, .inr (.inl (fo)))) :: wr) s.heap.size = A at hD ⊢
  have hA : ∀ q : Nat, s.heap.size ≤ q → A q := fun q h => by rw [← hAe]; exact Or.inr h
  have hS : va_S A s.heap s.heap [] := va_S.rf
  have hl := lv_entry ([.ref x, .int (nI k), .ref ou]) (n := 4) (Nat.le_of_ble_eq_true rfl)
  rw [lg_entry_eq]
  generalize (lg_sl ([.ref x, .int (nI k), .ref ou]) ++ List.replicate (4 - (lg_sl ([.ref x, .int (nI k), .ref ou])).length) Slot.unset).toArray = ls at hl ⊢
  have hl : lv_has ls 4 [(0, .ref x), (1, .int (nI k)), (2, .ref ou)] := hl
  generalize hQ : MQ below (va_Qi (fun (r : Int32) (u : (Int64 × Int32)) => r = nI 0) (fun u => qB D (A) ((tn, .inr (5, [.long (u.1), .int (u.2)])) :: (x, .inr (0, [.int (nI kd), .int (nI M), .int (nI (M + ckb kd M)), .long (lN (2 ^ M - 1)), .int (nI (2 ^ ckb kd M - 1)), .ref oc, .ref tn, .int (nI ha), .int (nI af), .long (lN w1), .int (nI c1), .int (nI t1), .ref ac, .int (nI 1), .int (lb), .ref sp, .int (nI su)])) :: (ac, .inl (g 0, 8, .inl (fun i => nI (tbl (pairA kd M) (M + ckb kd M) (M + ckb kd M) i)))) :: (sp, .inl (g 0, 8, .inl (fs))) :: (ou, .inl (g 1, 1, .inr (.inl (vp_updL fo 0 ((nI (shr kd M k)).toInt64))))) :: wr)) (A)) [.ref x, .int (nI k), .ref ou].toArray s 0 0 A = Q
  refine lv_aload_n hx hb d_W_share_0 rfl (lv_at hl 2 rfl) ?_
  refine lv_iconst (v := nI 0) hx hb d_W_share_1 (by decide) ?_
  refine lv_aload_n hx hb d_W_share_2 rfl (lv_at hl 0 rfl) ?_
  refine lv_iload_n hx hb d_W_share_3 rfl (lv_at hl 1 rfl) ?_
  refine lc_Vi (b := x) (As := [.int (nI k)]) (rest := [.int (nI 0), .ref ou]) ⟨hx, hb, hml, hown, hts⟩ (c_C_share l D g _ ((ou, .inl (g 1, 1, .inr (.inl (fo)))) :: wr) x tn ac sp oc kd M ha af w1 c1 t1 an su a0 b0 lb fa fs (hcw.cons _) hM0 hM k hk9 han) (kV 1 hts m_580 m_577 m_578 m_579 m_30 (by decide +kernel) ⟨Nat.le_of_ble_eq_true rfl, Nat.le_of_ble_eq_true rfl⟩) (va_recv hK hP (ci := 0) (q0 := 1) rfl rfl) hKK hP hD hS hA hl.1 rfl rfl (Nat.le_of_ble_eq_true rfl) d_W_share_4 ⟨Nat.le_of_ble_eq_true rfl, Nat.le_of_ble_eq_true rfl⟩ (fun rr u H locs er hP hD hS => ?_)
  have hP : va_P D vwCl ((tn, .inr (5, [.long (u.1), .int (u.2)])) :: (x, .inr (0, [.int (nI kd), .int (nI M), .int (nI (M + ckb kd M)), .long (lN (2 ^ M - 1)), .int (nI (2 ^ ckb kd M - 1)), .ref oc, .ref tn, .int (nI ha), .int (nI af), .long (lN w1), .int (nI c1), .int (nI t1), .ref ac, .int (nI 1), .int (lb), .ref sp, .int (nI su)])) :: (ac, .inl (g 0, 8, .inl (fun i => nI (tbl (pairA kd M) (M + ckb kd M) (M + ckb kd M) i)))) :: (sp, .inl (g 0, 8, .inl (fs))) :: (ou, .inl (g 1, 1, .inr (.inl (fo)))) :: wr) H := hP
  have hD : va_D A ((tn, .inr (5, [.long (u.1), .int (u.2)])) :: (x, .inr (0, [.int (nI kd), .int (nI M), .int (nI (M + ckb kd M)), .long (lN (2 ^ M - 1)), .int (nI (2 ^ ckb kd M - 1)), .ref oc, .ref tn, .int (nI ha), .int (nI af), .long (lN w1), .int (nI c1), .int (nI t1), .ref ac, .int (nI 1), .int (lb), .ref sp, .int (nI su)])) :: (ac, .inl (g 0, 8, .inl (fun i => nI (tbl (pairA kd M) (M + ckb kd M) (M + ckb kd M) i)))) :: (sp, .inl (g 0, 8, .inl (fs))) :: (ou, .inl (g 1, 1, .inr (.inl (fo)))) :: wr) := hD
  obtain rfl : rr = nI (shr kd M k) := er
  refine lv_i2l (v := (nI (shr kd M k)).toInt64) hx hb d_W_share_7 (rfl) ?_
  refine lx_last (f' := vp_updL fo 0 ((nI (shr kd M k)).toInt64)) hx hb hK hP hD hS 4 1 rfl rfl (j := 0) (by omega) (by omega) (rfl) d_W_share_8 (fun H locs hP hD hS => ?_)
  have hP : va_P D vwCl ((tn, .inr (5, [.long (u.1), .int (u.2)])) :: (x, .inr (0, [.int (nI kd), .int (nI M), .int (nI (M + ckb kd M)), .long (lN (2 ^ M - 1)), .int (nI (2 ^ ckb kd M - 1)), .ref oc, .ref tn, .int (nI ha), .int (nI af), .long (lN w1), .int (nI c1), .int (nI t1), .ref ac, .int (nI 1), .int (lb), .ref sp, .int (nI su)])) :: (ac, .inl (g 0, 8, .inl (fun i => nI (tbl (pairA kd M) (M + ckb kd M) (M + ckb kd M) i)))) :: (sp, .inl (g 0, 8, .inl (fs))) :: (ou, .inl (g 1, 1, .inr (.inl (vp_updL fo 0 ((nI (shr kd M k)).toInt64))))) :: wr) H := hP
  have hD : va_D A ((tn, .inr (5, [.long (u.1), .int (u.2)])) :: (x, .inr (0, [.int (nI kd), .int (nI M), .int (nI (M + ckb kd M)), .long (lN (2 ^ M - 1)), .int (nI (2 ^ ckb kd M - 1)), .ref oc, .ref tn, .int (nI ha), .int (nI af), .long (lN w1), .int (nI c1), .int (nI t1), .ref ac, .int (nI 1), .int (lb), .ref sp, .int (nI su)])) :: (ac, .inl (g 0, 8, .inl (fun i => nI (tbl (pairA kd M) (M + ckb kd M) (M + ckb kd M) i)))) :: (sp, .inl (g 0, 8, .inl (fs))) :: (ou, .inl (g 1, 1, .inr (.inl (vp_updL fo 0 ((nI (shr kd M k)).toInt64))))) :: wr) := hD
  refine lv_goto (tgt := 15) hx hb d_W_share_9 (by decide) ?_
  refine lv_iconst (v := nI 0) hx hb d_W_share_15 (by decide) ?_
  rw [← hQ]
  refine W.iret (v := nI 0) hx hb hr ?_ hS.2.2 d_W_share_16
  exact fun t ht hW => ⟨⟨nI 0, u, rfl, rfl, by rw [ht]; exact hP, hD⟩, hS.F ht⟩
set_option maxHeartbeats 4000000 in
set_option maxRecDepth 100000 in
theorem t_W_share (l : Launch) (hlt : l.stackTraces = false) (D : va_G) (g : Nat → ClassId) (sz : Nat) (wr : va_W) (ou : Nat) (fo : Nat → Int64) (x tn ac sp oc kd M ha af w1 c1 t1 an su : Nat) (a0 : Int64) (b0 lb : Int32) (fa fs : Nat → Int32) (hM0 : 0 < M) (hM : M ≤ 57) (v : Int32) (h09 : ¬ v = nI 0) (h19 : ¬ v = nI 1) : Met l y_W_share w_W_share rt_W_share (va_Pc [.ref x, .int (v), .ref ou] (pPW D (tyl g) ((tn, .inr (5, [.long (a0), .int (b0)])) :: (x, .inr (0, [.int (nI kd), .int (nI M), .int (nI (M + ckb kd M)), .long (lN (2 ^ M - 1)), .int (nI (2 ^ ckb kd M - 1)), .ref oc, .ref tn, .int (nI ha), .int (nI af), .long (lN w1), .int (nI c1), .int (nI t1), .ref ac, .int (nI an), .int (lb), .ref sp, .int (nI su)])) :: (ac, .inl (g 0, 8, .inl (fa))) :: (sp, .inl (g 0, 8, .inl (fs))) :: (ou, .inl (g 1, 1, .inr (.inl (fo)))) :: wr) sz)) (va_Qi (fun (r : Int32) (u : Unit) => r = nI 1) (fun _ _ => True) (fun q : Nat => sz ≤ q)) 1 6 (fun q : Nat => sz ≤ q) := by
  refine va_MetW (cc := b_W_share) (maxL := 4) (ret := (some .int)) (hh := [(0, 9, 12, 13)]) (by decide +kernel) rfl ?_
  intro p e s m args below meth c s₁ Bq hml hv
  have hx := Bq.exec
  have hb := Bq.bytes
  have hr := Bq.returns
  have htab := tabW_of (hh := [(0, 9, 12, 13)]) Bq rfl
  have hts : ∀ w ∈ wA, w.before args s = true := fun w h => atoms_spec (ws := w_W_share) Bq.pre w (List.mem_cons_of_mem _ h)
  have hown : s.vm.findClass R_W = some m.cls := findClass_of_methodNamed Bq.named
  have hlocks := Bq.notSynchronized
  obtain ⟨rfl, ⟨hsz, hP, hKK, hD0⟩, hTN, hTS⟩ := hv
  have hK := hKK.1
  subst hsz
  have hD := hD0
  generalize hAe : (fun q : Nat => s.heap.size ≤ q) = A
  have hA : ∀ q : Nat, s.heap.size ≤ q → A q := fun q h => by rw [← hAe]; exact h
  have hS : va_S A s.heap s.heap [] := va_S.rf
  have hl := lv_entry ([.ref x, .int (v), .ref ou]) (n := 4) (Nat.le_of_ble_eq_true rfl)
  rw [lg_entry_eq]
  generalize (lg_sl ([.ref x, .int (v), .ref ou]) ++ List.replicate (4 - (lg_sl ([.ref x, .int (v), .ref ou])).length) Slot.unset).toArray = ls at hl ⊢
  have hl : lv_has ls 4 [(0, .ref x), (1, .int (v)), (2, .ref ou)] := hl
  generalize hQ : MQ below (va_Qi (fun (r : Int32) (u : Unit) => r = nI 1) (fun _ _ => True) (A)) [.ref x, .int (v), .ref ou].toArray s 1 6 A = Q
  have hRc : (headSpec w_W_share rt_W_share).room.cells = 1 := rfl
  have hRs : (headSpec w_W_share rt_W_share).room.slots = 6 := rfl
  refine lv_aload_n hx hb d_W_share_0 rfl (lv_at hl 2 rfl) ?_
  refine lv_iconst (v := nI 0) hx hb d_W_share_1 (by decide) ?_
  refine lv_aload_n hx hb d_W_share_2 rfl (lv_at hl 0 rfl) ?_
  refine lv_iload_n hx hb d_W_share_3 rfl (lv_at hl 1 rfl) ?_
  refine lt_cv1 (b := x) (As := [.int (v)]) (rest := [.int (nI 0), .ref ou]) ⟨hx, hb, hml, hown, hts⟩ (t_C_share l hlt D g _ ((ou, .inl (g 1, 1, .inr (.inl (fo)))) :: wr) x tn ac sp oc kd M ha af w1 c1 t1 an su a0 b0 lb fa fs hM0 hM v h09 h19) (kV 1 hts m_580 m_577 m_578 m_579 m_30 (by decide +kernel) ⟨Nat.le_of_ble_eq_true rfl, Nat.le_of_ble_eq_true rfl⟩) ⟨pPT_blind _ _ _ _ _, va_recv hK hP (ci := 0) (q0 := 1) rfl rfl, fun U hU hW => ⟨rfl, pPT_of hU hW hP hKK hD hTN.1 hTS⟩⟩ hS hA hl.1 rfl rfl (Nat.le_of_ble_eq_true rfl) d_W_share_4 ⟨Nat.le_of_ble_eq_true rfl, Nat.le_of_ble_eq_true rfl⟩ htab ⟨by decide, by decide⟩ (by decide) (hts _ m_311) (va_Nw.use rfl (hTN.1.2.1 exI (by simp))) (fun q9 H locs hS => ?_)
  refine lv_astore_n (lv' := [(3, .ref q9), (0, .ref x), (1, .int (v)), (2, .ref ou)]) hx hb d_W_share_12 rfl hl (by decide) rfl (fun ls hl => ?_)
  refine lv_iconst (v := nI 1) hx hb d_W_share_13 (by decide) ?_
  refine W.widen (k := 1) (n := 6) (by omega) (by omega) ?_
  rw [← hQ]
  refine W.iret (v := nI 1) hx hb hr ?_ hS.2.2 d_W_share_14
  exact fun t ht hW => ⟨⟨nI 1, (), rfl, rfl, trivial⟩, hS.F ht⟩
