set_option maxRecDepth 100000 in
theorem jokc_0 : jokc jy_0.2.2.2.1 (Nat.beq jy_0.2.2.2.2.1 2) jy_0.2.1 jy_0.2.2.2.2.2 0 jc_0 = true := by decide +kernel
theorem jok_0 : jMok (jc_0, 2, 0, 2, 1, 1, 0) jy_0 := ⟨by decide +kernel, by decide +kernel, rfl, jokc_0, rfl, fun _ => rfl⟩
set_option maxRecDepth 100000 in
theorem jca_0 : jMcall (jc_0, 2, 0, 2, 1, 1, 0) jy_0 := ⟨⟨by decide +kernel, by decide +kernel⟩, jT 291 rfl, jT 11 (by decide +kernel), by decide, by decide, ⟨by decide +kernel, jT 290 (by decide +kernel), rfl, rfl, 0, rfl⟩⟩
set_option maxRecDepth 100000 in
theorem jokc_1 : jokc jy_1.2.2.2.1 (Nat.beq jy_1.2.2.2.2.1 2) jy_1.2.1 jy_1.2.2.2.2.2 0 jc_1 = true := by decide +kernel
theorem jok_1 : jMok (jc_1, 2, 0, 2, 1, 1, 0) jy_1 := ⟨by decide +kernel, by decide +kernel, rfl, jokc_1, rfl, fun h => absurd h (by decide)⟩
set_option maxRecDepth 100000 in
theorem jca_1 : jMcall (jc_1, 2, 0, 2, 1, 1, 0) jy_1 := ⟨⟨by decide +kernel, by decide +kernel⟩, jT 913 rfl, jT 11 (by decide +kernel), by decide, by decide, ⟨by decide +kernel, jT 911 (by decide +kernel), jT 912 (by decide +kernel), 0, rfl, by decide +kernel, by decide⟩⟩
set_option maxRecDepth 100000 in
theorem jokc_2 : jokc jy_2.2.2.2.1 (Nat.beq jy_2.2.2.2.2.1 2) jy_2.2.1 jy_2.2.2.2.2.2 0 jc_2 = true := by decide +kernel
theorem jok_2 : jMok (jc_2, 3, 0, 2, 1, 1, 1) jy_2 := ⟨by decide +kernel, by decide +kernel, rfl, jokc_2, rfl, fun h => absurd h (by decide)⟩
set_option maxRecDepth 100000 in
theorem jca_2 : jMcall (jc_2, 3, 0, 2, 1, 1, 1) jy_2 := ⟨⟨by decide +kernel, by decide +kernel⟩, jT 755 rfl, jT 11 (by decide +kernel), by decide, by decide, ⟨by decide +kernel, jT 753 (by decide +kernel), jT 754 (by decide +kernel), 0, rfl, by decide +kernel, by decide⟩⟩
set_option maxRecDepth 100000 in
theorem jokc_3 : jokc jy_3.2.2.2.1 (Nat.beq jy_3.2.2.2.2.1 2) jy_3.2.1 jy_3.2.2.2.2.2 0 jc_3 = true := by decide +kernel
theorem jok_3 : jMok (jc_3, 4, 0, 3, 2, 1, 1) jy_3 := ⟨by decide +kernel, by decide +kernel, rfl, jokc_3, rfl, fun h => absurd h (by decide)⟩
set_option maxRecDepth 100000 in
theorem jca_3 : jMcall (jc_3, 4, 0, 3, 2, 1, 1) jy_3 := ⟨⟨by decide +kernel, by decide +kernel⟩, jT 746 rfl, jT 11 (by decide +kernel), by decide, by decide, ⟨by decide +kernel, jT 744 (by decide +kernel), jT 745 (by decide +kernel), 0, rfl, by decide +kernel, by decide⟩⟩
set_option maxRecDepth 100000 in
theorem jokc_4 : jokc jy_4.2.2.2.1 (Nat.beq jy_4.2.2.2.2.1 2) jy_4.2.1 jy_4.2.2.2.2.2 0 jc_4 = true := by decide +kernel
theorem jok_4 : jMok (jc_4, 2, 0, 2, 0, 1, 1) jy_4 := ⟨by decide +kernel, by decide +kernel, rfl, jokc_4, rfl, fun h => absurd h (by decide)⟩
set_option maxRecDepth 100000 in
theorem jca_4 : jMcall (jc_4, 2, 0, 2, 0, 1, 1) jy_4 := ⟨⟨by decide +kernel, by decide +kernel⟩, jT 777 rfl, jT 11 (by decide +kernel), by decide, by decide, ⟨by decide +kernel, jT 776 (by decide +kernel), jTS (q := (⟨"CrowRota$Hours", "sightOf", "(I)I"⟩, 7)) (List.mem_of_getElem? (i := 28) (by decide +kernel)), 0, rfl, by decide +kernel, by decide⟩⟩
set_option maxRecDepth 100000 in
theorem jokc_5 : jokc jy_5.2.2.2.1 (Nat.beq jy_5.2.2.2.2.1 2) jy_5.2.1 jy_5.2.2.2.2.2 0 jc_5 = true := by decide +kernel
theorem jok_5 : jMok (jc_5, 4, 0, 4, 2, 1, 0) jy_5 := ⟨by decide +kernel, by decide +kernel, rfl, jokc_5, rfl, fun h => absurd h (by decide)⟩
set_option maxRecDepth 100000 in
theorem jca_5 : jMcall (jc_5, 4, 0, 4, 2, 1, 0) jy_5 := ⟨⟨by decide +kernel, by decide +kernel⟩, jT 781 rfl, jT 11 (by decide +kernel), by decide, by decide, ⟨by decide +kernel, jT 780 (by decide +kernel), jTS (q := (⟨"CrowRota$Hours", "stand", "(LCrowRota$State;II)V"⟩, 7)) (List.mem_of_getElem? (i := 29) (by decide +kernel)), 0, rfl, by decide +kernel, by decide⟩⟩
set_option maxRecDepth 100000 in
theorem jokc_6 : jokc jy_6.2.2.2.1 (Nat.beq jy_6.2.2.2.2.1 2) jy_6.2.1 jy_6.2.2.2.2.2 0 jc_6 = true := by decide +kernel
theorem jok_6 : jMok (jc_6, 7, 7, 4, 3, 1, 2) jy_6 := ⟨by decide +kernel, by decide +kernel, rfl, jokc_6, rfl, fun h => absurd h (by decide)⟩
set_option maxRecDepth 100000 in
theorem jca_6 : jMcall (jc_6, 7, 7, 4, 3, 1, 2) jy_6 := ⟨⟨by decide +kernel, by decide +kernel⟩, jT 786 rfl, jT 11 (by decide +kernel), by decide, by decide, ⟨by decide +kernel, jT 785 (by decide +kernel), jTS (q := (⟨"CrowRota$Hours", "looks", "(III)Z"⟩, 7)) (List.mem_of_getElem? (i := 30) (by decide +kernel)), 0, rfl, by decide +kernel, by decide⟩⟩
set_option maxRecDepth 100000 in
theorem jokc_7 : jokc jy_7.2.2.2.1 (Nat.beq jy_7.2.2.2.2.1 2) jy_7.2.1 jy_7.2.2.2.2.2 0 jc_7 = true := by decide +kernel
theorem jok_7 : jMok (jc_7, 9, 0, 3, 4, 1, 1) jy_7 := ⟨by decide +kernel, by decide +kernel, rfl, jokc_7, rfl, fun h => absurd h (by decide)⟩
set_option maxRecDepth 100000 in
theorem jca_7 : jMcall (jc_7, 9, 0, 3, 4, 1, 1) jy_7 := ⟨⟨by decide +kernel, by decide +kernel⟩, jT 773 rfl, jT 11 (by decide +kernel), by decide, by decide, ⟨by decide +kernel, jT 771 (by decide +kernel), jT 772 (by decide +kernel), 0, rfl, by decide +kernel, by decide⟩⟩
set_option maxRecDepth 100000 in
theorem jokc_8 : jokc jy_8.2.2.2.1 (Nat.beq jy_8.2.2.2.2.1 2) jy_8.2.1 jy_8.2.2.2.2.2 0 jc_8 = true := by decide +kernel
theorem jok_8 : jMok (jc_8, 7, 0, 5, 4, 1, 1) jy_8 := ⟨by decide +kernel, by decide +kernel, rfl, jokc_8, rfl, fun h => absurd h (by decide)⟩
set_option maxRecDepth 100000 in
theorem jca_8 : jMcall (jc_8, 7, 0, 5, 4, 1, 1) jy_8 := ⟨⟨by decide +kernel, by decide +kernel⟩, jT 946 rfl, jT 11 (by decide +kernel), by decide, by decide, ⟨by decide +kernel, jT 944 (by decide +kernel), jT 945 (by decide +kernel), 0, rfl, by decide +kernel, by decide⟩⟩
set_option maxRecDepth 100000 in
theorem jokc_9 : jokc jy_9.2.2.2.1 (Nat.beq jy_9.2.2.2.2.1 2) jy_9.2.1 jy_9.2.2.2.2.2 0 jc_9 = true := by decide +kernel
theorem jok_9 : jMok (jc_9, 4, 0, 4, 3, 1, 3) jy_9 := ⟨by decide +kernel, by decide +kernel, rfl, jokc_9, rfl, fun h => absurd h (by decide)⟩
set_option maxRecDepth 100000 in
theorem jca_9 : jMcall (jc_9, 4, 0, 4, 3, 1, 3) jy_9 := ⟨⟨by decide +kernel, by decide +kernel⟩, jT 818 rfl, jT 11 (by decide +kernel), by decide, by decide, ⟨by decide +kernel, jT 816 (by decide +kernel), jT 817 (by decide +kernel), 0, rfl, by decide +kernel, by decide⟩⟩
set_option maxRecDepth 100000 in
theorem jokc_10 : jokc jy_10.2.2.2.1 (Nat.beq jy_10.2.2.2.2.1 2) jy_10.2.1 jy_10.2.2.2.2.2 0 jc_10 = true := by decide +kernel
theorem jok_10 : jMok (jc_10, 3, 0, 3, 3, 1, 3) jy_10 := ⟨by decide +kernel, by decide +kernel, rfl, jokc_10, rfl, fun h => absurd h (by decide)⟩
set_option maxRecDepth 100000 in
theorem jca_10 : jMcall (jc_10, 3, 0, 3, 3, 1, 3) jy_10 := ⟨⟨by decide +kernel, by decide +kernel⟩, jT 822 rfl, jT 11 (by decide +kernel), by decide, by decide, ⟨by decide +kernel, jT 820 (by decide +kernel), jT 821 (by decide +kernel), 0, rfl, by decide +kernel, by decide⟩⟩
set_option maxRecDepth 100000 in
theorem jokc_11 : jokc jy_11.2.2.2.1 (Nat.beq jy_11.2.2.2.2.1 2) jy_11.2.1 jy_11.2.2.2.2.2 0 jc_11 = true := by decide +kernel
theorem jok_11 : jMok (jc_11, 3, 0, 3, 3, 1, 3) jy_11 := ⟨by decide +kernel, by decide +kernel, rfl, jokc_11, rfl, fun h => absurd h (by decide)⟩
set_option maxRecDepth 100000 in
theorem jca_11 : jMcall (jc_11, 3, 0, 3, 3, 1, 3) jy_11 := ⟨⟨by decide +kernel, by decide +kernel⟩, jT 826 rfl, jT 11 (by decide +kernel), by decide, by decide, ⟨by decide +kernel, jT 824 (by decide +kernel), jT 825 (by decide +kernel), 0, rfl, by decide +kernel, by decide⟩⟩
set_option maxRecDepth 100000 in
theorem jokc_12 : jokc jy_12.2.2.2.1 (Nat.beq jy_12.2.2.2.2.1 2) jy_12.2.1 jy_12.2.2.2.2.2 0 jc_12 = true := by decide +kernel
theorem jok_12 : jMok (jc_12, 2, 2, 1, 0, 0, 1) jy_12 := ⟨by decide +kernel, by decide +kernel, rfl, jokc_12, rfl, fun h => absurd h (by decide)⟩
set_option maxRecDepth 100000 in
theorem jca_12 : jMcall (jc_12, 2, 2, 1, 0, 0, 1) jy_12 := ⟨⟨by decide +kernel, by decide +kernel⟩, jT 861 rfl, jT 11 (by decide +kernel), by decide, by decide, ⟨by decide +kernel, jT 860 (by decide +kernel)⟩⟩
set_option maxRecDepth 100000 in
theorem jokc_13 : jokc jy_13.2.2.2.1 (Nat.beq jy_13.2.2.2.2.1 2) jy_13.2.1 jy_13.2.2.2.2.2 0 jc_13 = true := by decide +kernel
theorem jok_13 : jMok (jc_13, 5, 5, 3, 4, 1, 1) jy_13 := ⟨by decide +kernel, by decide +kernel, rfl, jokc_13, rfl, fun h => absurd h (by decide)⟩
set_option maxRecDepth 100000 in
theorem jca_13 : jMcall (jc_13, 5, 5, 3, 4, 1, 1) jy_13 := ⟨⟨by decide +kernel, by decide +kernel⟩, jT 877 rfl, jT 11 (by decide +kernel), by decide, by decide, ⟨by decide +kernel, jT 875 (by decide +kernel), jT 876 (by decide +kernel), 0, rfl, by decide +kernel, by decide⟩⟩
set_option maxRecDepth 100000 in
theorem jokc_14 : jokc jy_14.2.2.2.1 (Nat.beq jy_14.2.2.2.2.1 2) jy_14.2.1 jy_14.2.2.2.2.2 0 jc_14 = true := by decide +kernel
theorem jok_14 : jMok (jc_14, 5, 5, 3, 4, 1, 1) jy_14 := ⟨by decide +kernel, by decide +kernel, rfl, jokc_14, rfl, fun h => absurd h (by decide)⟩
set_option maxRecDepth 100000 in
theorem jca_14 : jMcall (jc_14, 5, 5, 3, 4, 1, 1) jy_14 := ⟨⟨by decide +kernel, by decide +kernel⟩, jT 857 rfl, jT 11 (by decide +kernel), by decide, by decide, ⟨by decide +kernel, jT 856 (by decide +kernel), jTS (q := (⟨"CrowRota$Hours", "wage", "(LCrowRota$State;I)I"⟩, 7)) (List.mem_of_getElem? (i := 31) (by decide +kernel)), 0, rfl, by decide +kernel, by decide⟩⟩
set_option maxRecDepth 100000 in
theorem jokc_15 : jokc jy_15.2.2.2.1 (Nat.beq jy_15.2.2.2.2.1 2) jy_15.2.1 jy_15.2.2.2.2.2 0 jc_15 = true := by decide +kernel
theorem jok_15 : jMok (jc_15, 6, 0, 2, 1, 1, 1) jy_15 := ⟨by decide +kernel, by decide +kernel, rfl, jokc_15, rfl, fun h => absurd h (by decide)⟩
set_option maxRecDepth 100000 in
theorem jca_15 : jMcall (jc_15, 6, 0, 2, 1, 1, 1) jy_15 := ⟨⟨by decide +kernel, by decide +kernel⟩, jT 873 rfl, jT 11 (by decide +kernel), by decide, by decide, ⟨by decide +kernel, jT 872 (by decide +kernel), jTS (q := (⟨"CrowRota$Hours", "aim", "(LCrowRota$State;)I"⟩, 7)) (List.mem_of_getElem? (i := 32) (by decide +kernel)), 0, rfl, by decide +kernel, by decide⟩⟩
set_option maxRecDepth 100000 in
theorem jokc_16 : jokc jy_16.2.2.2.1 (Nat.beq jy_16.2.2.2.2.1 2) jy_16.2.1 jy_16.2.2.2.2.2 0 jc_16 = true := by decide +kernel
theorem jok_16 : jMok (jc_16, 5, 0, 2, 5, 1, 0) jy_16 := ⟨by decide +kernel, by decide +kernel, rfl, jokc_16, rfl, fun h => absurd h (by decide)⟩
set_option maxRecDepth 100000 in
theorem jca_16 : jMcall (jc_16, 5, 0, 2, 5, 1, 0) jy_16 := ⟨⟨by decide +kernel, by decide +kernel⟩, jT 852 rfl, jT 11 (by decide +kernel), by decide, by decide, ⟨by decide +kernel, jT 850 (by decide +kernel), jT 851 (by decide +kernel), 0, rfl, by decide +kernel, by decide⟩⟩
set_option maxRecDepth 100000 in
theorem jokc_17 : jokc jy_17.2.2.2.1 (Nat.beq jy_17.2.2.2.2.1 2) jy_17.2.1 jy_17.2.2.2.2.2 0 jc_17 = true := by decide +kernel
theorem jok_17 : jMok (jc_17, 5, 0, 4, 6, 1, 0) jy_17 := ⟨by decide +kernel, by decide +kernel, rfl, jokc_17, rfl, fun h => absurd h (by decide)⟩
set_option maxRecDepth 100000 in
theorem jca_17 : jMcall (jc_17, 5, 0, 4, 6, 1, 0) jy_17 := ⟨⟨by decide +kernel, by decide +kernel⟩, jT 925 rfl, jT 11 (by decide +kernel), by decide, by decide, ⟨by decide +kernel, jT 923 (by decide +kernel), jT 924 (by decide +kernel), 0, rfl, by decide +kernel, by decide⟩⟩
set_option maxRecDepth 100000 in
theorem jokc_18 : jokc jy_18.2.2.2.1 (Nat.beq jy_18.2.2.2.2.1 2) jy_18.2.1 jy_18.2.2.2.2.2 0 jc_18 = true := by decide +kernel
theorem jok_18 : jMok (jc_18, 5, 0, 3, 6, 1, 0) jy_18 := ⟨by decide +kernel, by decide +kernel, rfl, jokc_18, rfl, fun h => absurd h (by decide)⟩
set_option maxRecDepth 100000 in
theorem jca_18 : jMcall (jc_18, 5, 0, 3, 6, 1, 0) jy_18 := ⟨⟨by decide +kernel, by decide +kernel⟩, jT 899 rfl, jT 11 (by decide +kernel), by decide, by decide, ⟨by decide +kernel, jT 897 (by decide +kernel), jT 898 (by decide +kernel), 0, rfl, by decide +kernel, by decide⟩⟩
set_option maxRecDepth 100000 in
theorem jokc_19 : jokc jy_19.2.2.2.1 (Nat.beq jy_19.2.2.2.2.1 2) jy_19.2.1 jy_19.2.2.2.2.2 0 jc_19 = true := by decide +kernel
theorem jok_19 : jMok (jc_19, 1, 0, 1, 0, 2, 0) jy_19 := ⟨by decide +kernel, by decide +kernel, rfl, jokc_19, rfl, fun _ => rfl⟩
set_option maxRecDepth 100000 in
theorem jca_19 : jMcall (jc_19, 1, 0, 1, 0, 2, 0) jy_19 := ⟨⟨by decide +kernel, by decide +kernel⟩, jT 168 rfl, jT 9 (by decide +kernel), by decide, by decide, ⟨by decide +kernel, jT 167 (by decide +kernel), rfl, rfl, 1, rfl⟩⟩
set_option maxRecDepth 100000 in
theorem jokc_20 : jokc jy_20.2.2.2.1 (Nat.beq jy_20.2.2.2.2.1 2) jy_20.2.1 jy_20.2.2.2.2.2 0 jc_20 = true := by decide +kernel
theorem jok_20 : jMok (jc_20, 3, 0, 3, 0, 2, 0) jy_20 := ⟨by decide +kernel, by decide +kernel, rfl, jokc_20, rfl, fun h => absurd h (by decide)⟩
set_option maxRecDepth 100000 in
theorem jca_20 : jMcall (jc_20, 3, 0, 3, 0, 2, 0) jy_20 := ⟨⟨by decide +kernel, by decide +kernel⟩, jT 705 rfl, jT 9 (by decide +kernel), by decide, by decide, ⟨by decide +kernel, jT 703 (by decide +kernel), jT 704 (by decide +kernel), 1, rfl, by decide +kernel, by decide⟩⟩
set_option maxRecDepth 100000 in
theorem jokc_21 : jokc jy_21.2.2.2.1 (Nat.beq jy_21.2.2.2.2.1 2) jy_21.2.1 jy_21.2.2.2.2.2 0 jc_21 = true := by decide +kernel
theorem jok_21 : jMok (jc_21, 8, 8, 3, 2, 2, 3) jy_21 := ⟨by decide +kernel, by decide +kernel, rfl, jokc_21, rfl, fun h => absurd h (by decide)⟩
set_option maxRecDepth 100000 in
theorem jca_21 : jMcall (jc_21, 8, 8, 3, 2, 2, 3) jy_21 := ⟨⟨by decide +kernel, by decide +kernel⟩, jT 797 rfl, jT 9 (by decide +kernel), by decide, by decide, ⟨by decide +kernel, jT 795 (by decide +kernel), jT 796 (by decide +kernel), 1, rfl, by decide +kernel, by decide⟩⟩
set_option maxRecDepth 100000 in
theorem jokc_22 : jokc jy_22.2.2.2.1 (Nat.beq jy_22.2.2.2.2.1 2) jy_22.2.1 jy_22.2.2.2.2.2 0 jc_22 = true := by decide +kernel
theorem jok_22 : jMok (jc_22, 5, 5, 3, 1, 0, 3) jy_22 := ⟨by decide +kernel, by decide +kernel, rfl, jokc_22, rfl, fun h => absurd h (by decide)⟩
set_option maxRecDepth 100000 in
theorem jca_22 : jMcall (jc_22, 5, 5, 3, 1, 0, 3) jy_22 := ⟨⟨by decide +kernel, by decide +kernel⟩, jT 801 rfl, jT 9 (by decide +kernel), by decide, by decide, ⟨by decide +kernel, jT 800 (by decide +kernel)⟩⟩
set_option maxRecDepth 100000 in
theorem jokc_23 : jokc jy_23.2.2.2.1 (Nat.beq jy_23.2.2.2.2.1 2) jy_23.2.1 jy_23.2.2.2.2.2 0 jc_23 = true := by decide +kernel
theorem jok_23 : jMok (jc_23, 5, 5, 3, 0, 0, 2) jy_23 := ⟨by decide +kernel, by decide +kernel, rfl, jokc_23, rfl, fun h => absurd h (by decide)⟩
set_option maxRecDepth 100000 in
theorem jca_23 : jMcall (jc_23, 5, 5, 3, 0, 0, 2) jy_23 := ⟨⟨by decide +kernel, by decide +kernel⟩, jT 808 rfl, jT 9 (by decide +kernel), by decide, by decide, ⟨by decide +kernel, jT 807 (by decide +kernel)⟩⟩
set_option maxRecDepth 100000 in
theorem jokc_24 : jokc jy_24.2.2.2.1 (Nat.beq jy_24.2.2.2.2.1 2) jy_24.2.1 jy_24.2.2.2.2.2 0 jc_24 = true := by decide +kernel
theorem jok_24 : jMok (jc_24, 1, 0, 1, 0, 3, 0) jy_24 := ⟨by decide +kernel, by decide +kernel, rfl, jokc_24, rfl, fun _ => rfl⟩
set_option maxRecDepth 100000 in
theorem jca_24 : jMcall (jc_24, 1, 0, 1, 0, 3, 0) jy_24 := ⟨⟨by decide +kernel, by decide +kernel⟩, jT 478 rfl, jT 16 (by decide +kernel), by decide, by decide, ⟨by decide +kernel, jT 477 (by decide +kernel), rfl, rfl, 2, rfl⟩⟩
set_option maxRecDepth 100000 in
theorem jokc_25 : jokc jy_25.2.2.2.1 (Nat.beq jy_25.2.2.2.2.1 2) jy_25.2.1 jy_25.2.2.2.2.2 0 jc_25 = true := by decide +kernel
theorem jok_25 : jMok (jc_25, 2, 0, 2, 0, 3, 1) jy_25 := ⟨by decide +kernel, by decide +kernel, rfl, jokc_25, rfl, fun h => absurd h (by decide)⟩
set_option maxRecDepth 100000 in
theorem jca_25 : jMcall (jc_25, 2, 0, 2, 0, 3, 1) jy_25 := ⟨⟨by decide +kernel, by decide +kernel⟩, jT 991 rfl, jT 16 (by decide +kernel), by decide, by decide, ⟨by decide +kernel, jT 989 (by decide +kernel), jT 990 (by decide +kernel), 2, rfl, by decide +kernel, by decide⟩⟩
set_option maxRecDepth 100000 in
theorem jokc_26 : jokc jy_26.2.2.2.1 (Nat.beq jy_26.2.2.2.2.1 2) jy_26.2.1 jy_26.2.2.2.2.2 0 jc_26 = true := by decide +kernel
theorem jok_26 : jMok (jc_26, 4, 0, 1, 2, 3, 0) jy_26 := ⟨by decide +kernel, by decide +kernel, rfl, jokc_26, rfl, fun h => absurd h (by decide)⟩
set_option maxRecDepth 100000 in
theorem jca_26 : jMcall (jc_26, 4, 0, 1, 2, 3, 0) jy_26 := ⟨⟨by decide +kernel, by decide +kernel⟩, jT 978 rfl, jT 16 (by decide +kernel), by decide, by decide, ⟨by decide +kernel, jT 976 (by decide +kernel), jT 977 (by decide +kernel), 2, rfl, by decide +kernel, by decide⟩⟩
set_option maxRecDepth 100000 in
theorem jokc_27 : jokc jy_27.2.2.2.1 (Nat.beq jy_27.2.2.2.2.1 2) jy_27.2.1 jy_27.2.2.2.2.2 0 jc_27 = true := by decide +kernel
theorem jok_27 : jMok (jc_27, 6, 0, 5, 1, 3, 0) jy_27 := ⟨by decide +kernel, by decide +kernel, rfl, jokc_27, rfl, fun h => absurd h (by decide)⟩
set_option maxRecDepth 100000 in
theorem jca_27 : jMcall (jc_27, 6, 0, 5, 1, 3, 0) jy_27 := ⟨⟨by decide +kernel, by decide +kernel⟩, jT 982 rfl, jT 16 (by decide +kernel), by decide, by decide, ⟨by decide +kernel, jT 981 (by decide +kernel), jTS (q := (⟨"CrowRota$Lot", "put", "(IIII)V"⟩, 5)) (List.mem_of_getElem? (i := 34) (by decide +kernel)), 2, rfl, by decide +kernel, by decide⟩⟩
set_option maxRecDepth 100000 in
theorem jokc_28 : jokc jy_28.2.2.2.1 (Nat.beq jy_28.2.2.2.2.1 2) jy_28.2.1 jy_28.2.2.2.2.2 0 jc_28 = true := by decide +kernel
theorem jok_28 : jMok (jc_28, 6, 0, 2, 0, 0, 1) jy_28 := ⟨by decide +kernel, by decide +kernel, rfl, jokc_28, rfl, fun h => absurd h (by decide)⟩
set_option maxRecDepth 100000 in
theorem jca_28 : jMcall (jc_28, 6, 0, 2, 0, 0, 1) jy_28 := ⟨⟨by decide +kernel, by decide +kernel⟩, jT 985 rfl, jT 16 (by decide +kernel), by decide, by decide, ⟨by decide +kernel, jT 984 (by decide +kernel)⟩⟩
set_option maxRecDepth 100000 in
theorem jokc_29 : jokc jy_29.2.2.2.1 (Nat.beq jy_29.2.2.2.2.1 2) jy_29.2.1 jy_29.2.2.2.2.2 0 jc_29 = true := by decide +kernel
theorem jok_29 : jMok (jc_29, 1, 0, 1, 0, 4, 0) jy_29 := ⟨by decide +kernel, by decide +kernel, rfl, jokc_29, rfl, fun _ => rfl⟩
set_option maxRecDepth 100000 in
theorem jca_29 : jMcall (jc_29, 1, 0, 1, 0, 4, 0) jy_29 := ⟨⟨by decide +kernel, by decide +kernel⟩, jT 452 rfl, jT 15 (by decide +kernel), by decide, by decide, ⟨by decide +kernel, jT 451 (by decide +kernel), rfl, rfl, 3, rfl⟩⟩
set_option maxRecDepth 100000 in
theorem jokc_30 : jokc jy_30.2.2.2.1 (Nat.beq jy_30.2.2.2.2.1 2) jy_30.2.1 jy_30.2.2.2.2.2 0 jc_30 = true := by decide +kernel
theorem jok_30 : jMok (jc_30, 1, 0, 1, 0, 4, 0) jy_30 := ⟨by decide +kernel, by decide +kernel, rfl, jokc_30, rfl, fun h => absurd h (by decide)⟩
set_option maxRecDepth 100000 in
theorem jca_30 : jMcall (jc_30, 1, 0, 1, 0, 4, 0) jy_30 := ⟨⟨by decide +kernel, by decide +kernel⟩, jT 721 rfl, jT 15 (by decide +kernel), by decide, by decide, ⟨by decide +kernel, jT 719 (by decide +kernel), jT 720 (by decide +kernel), 3, rfl, by decide +kernel, by decide⟩⟩
set_option maxRecDepth 100000 in
theorem jokc_31 : jokc jy_31.2.2.2.1 (Nat.beq jy_31.2.2.2.2.1 2) jy_31.2.1 jy_31.2.2.2.2.2 0 jc_31 = true := by decide +kernel
theorem jok_31 : jMok (jc_31, 5, 0, 5, 1, 4, 1) jy_31 := ⟨by decide +kernel, by decide +kernel, rfl, jokc_31, rfl, fun h => absurd h (by decide)⟩
set_option maxRecDepth 100000 in
theorem jca_31 : jMcall (jc_31, 5, 0, 5, 1, 4, 1) jy_31 := ⟨⟨by decide +kernel, by decide +kernel⟩, jT 1003 rfl, jT 15 (by decide +kernel), by decide, by decide, ⟨by decide +kernel, jT 1001 (by decide +kernel), jT 1002 (by decide +kernel), 3, rfl, by decide +kernel, by decide⟩⟩
set_option maxRecDepth 100000 in
theorem jokc_32 : jokc jy_32.2.2.2.1 (Nat.beq jy_32.2.2.2.2.1 2) jy_32.2.1 jy_32.2.2.2.2.2 0 jc_32 = true := by decide +kernel
theorem jok_32 : jMok (jc_32, 2, 0, 2, 1, 4, 1) jy_32 := ⟨by decide +kernel, by decide +kernel, rfl, jokc_32, rfl, fun h => absurd h (by decide)⟩
set_option maxRecDepth 100000 in
theorem jca_32 : jMcall (jc_32, 2, 0, 2, 1, 4, 1) jy_32 := ⟨⟨by decide +kernel, by decide +kernel⟩, jT 1015 rfl, jT 15 (by decide +kernel), by decide, by decide, ⟨by decide +kernel, jT 1013 (by decide +kernel), jT 1014 (by decide +kernel), 3, rfl, by decide +kernel, by decide⟩⟩
set_option maxRecDepth 100000 in
theorem jokc_33 : jokc jy_33.2.2.2.1 (Nat.beq jy_33.2.2.2.2.1 2) jy_33.2.1 jy_33.2.2.2.2.2 0 jc_33 = true := by decide +kernel
theorem jok_33 : jMok (jc_33, 5, 0, 5, 0, 4, 1) jy_33 := ⟨by decide +kernel, by decide +kernel, rfl, jokc_33, rfl, fun h => absurd h (by decide)⟩
set_option maxRecDepth 100000 in
theorem jca_33 : jMcall (jc_33, 5, 0, 5, 0, 4, 1) jy_33 := ⟨⟨by decide +kernel, by decide +kernel⟩, jT 1007 rfl, jT 15 (by decide +kernel), by decide, by decide, ⟨by decide +kernel, jT 1006 (by decide +kernel), jTS (q := (⟨"CrowRota$Notes", "add", "(IIII)I"⟩, 6)) (List.mem_of_getElem? (i := 35) (by decide +kernel)), 3, rfl, by decide +kernel, by decide⟩⟩
set_option maxRecDepth 100000 in
theorem jokc_34 : jokc jy_34.2.2.2.1 (Nat.beq jy_34.2.2.2.2.1 2) jy_34.2.1 jy_34.2.2.2.2.2 0 jc_34 = true := by decide +kernel
theorem jok_34 : jMok (jc_34, 2, 0, 2, 0, 4, 2) jy_34 := ⟨by decide +kernel, by decide +kernel, rfl, jokc_34, rfl, fun h => absurd h (by decide)⟩
set_option maxRecDepth 100000 in
theorem jca_34 : jMcall (jc_34, 2, 0, 2, 0, 4, 2) jy_34 := ⟨⟨by decide +kernel, by decide +kernel⟩, jT 1023 rfl, jT 15 (by decide +kernel), by decide, by decide, ⟨by decide +kernel, jT 1021 (by decide +kernel), jT 1022 (by decide +kernel), 3, rfl, by decide +kernel, by decide⟩⟩
set_option maxRecDepth 100000 in
theorem jokc_35 : jokc jy_35.2.2.2.1 (Nat.beq jy_35.2.2.2.2.1 2) jy_35.2.1 jy_35.2.2.2.2.2 0 jc_35 = true := by decide +kernel
theorem jok_35 : jMok (jc_35, 1, 0, 1, 0, 4, 1) jy_35 := ⟨by decide +kernel, by decide +kernel, rfl, jokc_35, rfl, fun h => absurd h (by decide)⟩
set_option maxRecDepth 100000 in
theorem jca_35 : jMcall (jc_35, 1, 0, 1, 0, 4, 1) jy_35 := ⟨⟨by decide +kernel, by decide +kernel⟩, jT 1035 rfl, jT 15 (by decide +kernel), by decide, by decide, ⟨by decide +kernel, jT 1033 (by decide +kernel), jT 1034 (by decide +kernel), 3, rfl, by decide +kernel, by decide⟩⟩
set_option maxRecDepth 100000 in
theorem jokc_36 : jokc jy_36.2.2.2.1 (Nat.beq jy_36.2.2.2.2.1 2) jy_36.2.1 jy_36.2.2.2.2.2 0 jc_36 = true := by decide +kernel
theorem jok_36 : jMok (jc_36, 5, 0, 1, 1, 4, 1) jy_36 := ⟨by decide +kernel, by decide +kernel, rfl, jokc_36, rfl, fun h => absurd h (by decide)⟩
set_option maxRecDepth 100000 in
theorem jca_36 : jMcall (jc_36, 5, 0, 1, 1, 4, 1) jy_36 := ⟨⟨by decide +kernel, by decide +kernel⟩, jT 1031 rfl, jT 15 (by decide +kernel), by decide, by decide, ⟨by decide +kernel, jT 1029 (by decide +kernel), jT 1030 (by decide +kernel), 3, rfl, by decide +kernel, by decide⟩⟩
set_option maxRecDepth 100000 in
theorem jokc_37 : jokc jy_37.2.2.2.1 (Nat.beq jy_37.2.2.2.2.1 2) jy_37.2.1 jy_37.2.2.2.2.2 0 jc_37 = true := by decide +kernel
theorem jok_37 : jMok (jc_37, 4, 0, 2, 0, 4, 1) jy_37 := ⟨by decide +kernel, by decide +kernel, rfl, jokc_37, rfl, fun h => absurd h (by decide)⟩
set_option maxRecDepth 100000 in
theorem jca_37 : jMcall (jc_37, 4, 0, 2, 0, 4, 1) jy_37 := ⟨⟨by decide +kernel, by decide +kernel⟩, jT 1040 rfl, jT 15 (by decide +kernel), by decide, by decide, ⟨by decide +kernel, jT 1038 (by decide +kernel), jT 1039 (by decide +kernel), 3, rfl, by decide +kernel, by decide⟩⟩
set_option maxRecDepth 100000 in
theorem jokc_38 : jokc jy_38.2.2.2.1 (Nat.beq jy_38.2.2.2.2.1 2) jy_38.2.1 jy_38.2.2.2.2.2 0 jc_38 = true := by decide +kernel
theorem jok_38 : jMok (jc_38, 6, 0, 4, 0, 4, 2) jy_38 := ⟨by decide +kernel, by decide +kernel, rfl, jokc_38, rfl, fun h => absurd h (by decide)⟩
set_option maxRecDepth 100000 in
theorem jca_38 : jMcall (jc_38, 6, 0, 4, 0, 4, 2) jy_38 := ⟨⟨by decide +kernel, by decide +kernel⟩, jT 1045 rfl, jT 15 (by decide +kernel), by decide, by decide, ⟨by decide +kernel, jT 1043 (by decide +kernel), jT 1044 (by decide +kernel), 3, rfl, by decide +kernel, by decide⟩⟩
set_option maxRecDepth 100000 in
theorem jokc_39 : jokc jy_39.2.2.2.1 (Nat.beq jy_39.2.2.2.2.1 2) jy_39.2.1 jy_39.2.2.2.2.2 0 jc_39 = true := by decide +kernel
theorem jok_39 : jMok (jc_39, 2, 0, 1, 2, 5, 0) jy_39 := ⟨by decide +kernel, by decide +kernel, rfl, jokc_39, rfl, fun _ => rfl⟩
set_option maxRecDepth 100000 in
theorem jca_39 : jMcall (jc_39, 2, 0, 1, 2, 5, 0) jy_39 := ⟨⟨by decide +kernel, by decide +kernel⟩, jT 161 rfl, jT 8 (by decide +kernel), by decide, by decide, ⟨by decide +kernel, jT 160 (by decide +kernel), rfl, rfl, 4, rfl⟩⟩
set_option maxRecDepth 100000 in
theorem jokc_40 : jokc jy_40.2.2.2.1 (Nat.beq jy_40.2.2.2.2.1 2) jy_40.2.1 jy_40.2.2.2.2.2 0 jc_40 = true := by decide +kernel
theorem jok_40 : jMok (jc_40, 2, 0, 1, 1, 5, 0) jy_40 := ⟨by decide +kernel, by decide +kernel, rfl, jokc_40, rfl, fun h => absurd h (by decide)⟩
set_option maxRecDepth 100000 in
theorem jca_40 : jMcall (jc_40, 2, 0, 1, 1, 5, 0) jy_40 := ⟨⟨by decide +kernel, by decide +kernel⟩, jT 184 rfl, jT 8 (by decide +kernel), by decide, by decide, ⟨by decide +kernel, jT 183 (by decide +kernel), jTS (q := (⟨"CrowRota$Plan", "clear", "()V"⟩, 19)) (List.mem_of_getElem? (i := 0) (by decide +kernel)), 4, rfl, by decide +kernel, by decide⟩⟩
set_option maxRecDepth 100000 in
theorem jokc_41 : jokc jy_41.2.2.2.1 (Nat.beq jy_41.2.2.2.2.1 2) jy_41.2.1 jy_41.2.2.2.2.2 0 jc_41 = true := by decide +kernel
theorem jok_41 : jMok (jc_41, 1, 0, 1, 0, 5, 1) jy_41 := ⟨by decide +kernel, by decide +kernel, rfl, jokc_41, rfl, fun h => absurd h (by decide)⟩
set_option maxRecDepth 100000 in
theorem jca_41 : jMcall (jc_41, 1, 0, 1, 0, 5, 1) jy_41 := ⟨⟨by decide +kernel, by decide +kernel⟩, jT 508 rfl, jT 8 (by decide +kernel), by decide, by decide, ⟨by decide +kernel, jT 506 (by decide +kernel), jT 507 (by decide +kernel), 4, rfl, by decide +kernel, by decide⟩⟩
set_option maxRecDepth 100000 in
theorem jokc_42 : jokc jy_42.2.2.2.1 (Nat.beq jy_42.2.2.2.2.1 2) jy_42.2.1 jy_42.2.2.2.2.2 0 jc_42 = true := by decide +kernel
theorem jok_42 : jMok (jc_42, 2, 0, 2, 1, 5, 2) jy_42 := ⟨by decide +kernel, by decide +kernel, rfl, jokc_42, rfl, fun h => absurd h (by decide)⟩
set_option maxRecDepth 100000 in
theorem jca_42 : jMcall (jc_42, 2, 0, 2, 1, 5, 2) jy_42 := ⟨⟨by decide +kernel, by decide +kernel⟩, jT 504 rfl, jT 8 (by decide +kernel), by decide, by decide, ⟨by decide +kernel, jT 502 (by decide +kernel), jT 503 (by decide +kernel), 4, rfl, by decide +kernel, by decide⟩⟩
set_option maxRecDepth 100000 in
theorem jokc_43 : jokc jy_43.2.2.2.1 (Nat.beq jy_43.2.2.2.2.1 2) jy_43.2.1 jy_43.2.2.2.2.2 0 jc_43 = true := by decide +kernel
theorem jok_43 : jMok (jc_43, 2, 0, 2, 0, 5, 2) jy_43 := ⟨by decide +kernel, by decide +kernel, rfl, jokc_43, rfl, fun h => absurd h (by decide)⟩
set_option maxRecDepth 100000 in
theorem jca_43 : jMcall (jc_43, 2, 0, 2, 0, 5, 2) jy_43 := ⟨⟨by decide +kernel, by decide +kernel⟩, jT 738 rfl, jT 8 (by decide +kernel), by decide, by decide, ⟨by decide +kernel, jT 736 (by decide +kernel), jT 737 (by decide +kernel), 4, rfl, by decide +kernel, by decide⟩⟩
set_option maxRecDepth 100000 in
theorem jokc_44 : jokc jy_44.2.2.2.1 (Nat.beq jy_44.2.2.2.2.1 2) jy_44.2.1 jy_44.2.2.2.2.2 0 jc_44 = true := by decide +kernel
theorem jok_44 : jMok (jc_44, 2, 0, 2, 0, 5, 1) jy_44 := ⟨by decide +kernel, by decide +kernel, rfl, jokc_44, rfl, fun h => absurd h (by decide)⟩
set_option maxRecDepth 100000 in
theorem jca_44 : jMcall (jc_44, 2, 0, 2, 0, 5, 1) jy_44 := ⟨⟨by decide +kernel, by decide +kernel⟩, jT 759 rfl, jT 8 (by decide +kernel), by decide, by decide, ⟨by decide +kernel, jT 757 (by decide +kernel), jT 758 (by decide +kernel), 4, rfl, by decide +kernel, by decide⟩⟩
set_option maxRecDepth 100000 in
theorem jokc_45 : jokc jy_45.2.2.2.1 (Nat.beq jy_45.2.2.2.2.1 2) jy_45.2.1 jy_45.2.2.2.2.2 0 jc_45 = true := by decide +kernel
theorem jok_45 : jMok (jc_45, 3, 0, 2, 0, 5, 1) jy_45 := ⟨by decide +kernel, by decide +kernel, rfl, jokc_45, rfl, fun h => absurd h (by decide)⟩
set_option maxRecDepth 100000 in
theorem jca_45 : jMcall (jc_45, 3, 0, 2, 0, 5, 1) jy_45 := ⟨⟨by decide +kernel, by decide +kernel⟩, jT 645 rfl, jT 8 (by decide +kernel), by decide, by decide, ⟨by decide +kernel, jT 643 (by decide +kernel), jT 644 (by decide +kernel), 4, rfl, by decide +kernel, by decide⟩⟩
set_option maxRecDepth 100000 in
theorem jokc_46 : jokc jy_46.2.2.2.1 (Nat.beq jy_46.2.2.2.2.1 2) jy_46.2.1 jy_46.2.2.2.2.2 0 jc_46 = true := by decide +kernel
theorem jok_46 : jMok (jc_46, 3, 0, 3, 0, 5, 1) jy_46 := ⟨by decide +kernel, by decide +kernel, rfl, jokc_46, rfl, fun h => absurd h (by decide)⟩
set_option maxRecDepth 100000 in
theorem jca_46 : jMcall (jc_46, 3, 0, 3, 0, 5, 1) jy_46 := ⟨⟨by decide +kernel, by decide +kernel⟩, jT 790 rfl, jT 8 (by decide +kernel), by decide, by decide, ⟨by decide +kernel, jT 788 (by decide +kernel), jT 789 (by decide +kernel), 4, rfl, by decide +kernel, by decide⟩⟩
set_option maxRecDepth 100000 in
theorem jokc_47 : jokc jy_47.2.2.2.1 (Nat.beq jy_47.2.2.2.2.1 2) jy_47.2.1 jy_47.2.2.2.2.2 0 jc_47 = true := by decide +kernel
theorem jok_47 : jMok (jc_47, 1, 0, 1, 2, 6, 0) jy_47 := ⟨by decide +kernel, by decide +kernel, rfl, jokc_47, rfl, fun _ => rfl⟩
set_option maxRecDepth 100000 in
theorem jca_47 : jMcall (jc_47, 1, 0, 1, 2, 6, 0) jy_47 := ⟨⟨by decide +kernel, by decide +kernel⟩, jT 38 rfl, jT 2 (by decide +kernel), by decide, by decide, ⟨by decide +kernel, jT 37 (by decide +kernel), rfl, rfl, 5, rfl⟩⟩
set_option maxRecDepth 100000 in
theorem jokc_48 : jokc jy_48.2.2.2.1 (Nat.beq jy_48.2.2.2.2.1 2) jy_48.2.1 jy_48.2.2.2.2.2 0 jc_48 = true := by decide +kernel
theorem jok_48 : jMok (jc_48, 3, 0, 3, 4, 6, 0) jy_48 := ⟨by decide +kernel, by decide +kernel, rfl, jokc_48, rfl, fun h => absurd h (by decide)⟩
set_option maxRecDepth 100000 in
theorem jca_48 : jMcall (jc_48, 3, 0, 3, 4, 6, 0) jy_48 := ⟨⟨by decide +kernel, by decide +kernel⟩, jT 568 rfl, jT 2 (by decide +kernel), by decide, by decide, ⟨by decide +kernel, jT 566 (by decide +kernel), jT 567 (by decide +kernel), 5, rfl, by decide +kernel, by decide⟩⟩
set_option maxRecDepth 100000 in
theorem jokc_49 : jokc jy_49.2.2.2.1 (Nat.beq jy_49.2.2.2.2.1 2) jy_49.2.1 jy_49.2.2.2.2.2 0 jc_49 = true := by decide +kernel
theorem jok_49 : jMok (jc_49, 1, 0, 1, 0, 6, 2) jy_49 := ⟨by decide +kernel, by decide +kernel, rfl, jokc_49, rfl, fun h => absurd h (by decide)⟩
set_option maxRecDepth 100000 in
theorem jca_49 : jMcall (jc_49, 1, 0, 1, 0, 6, 2) jy_49 := ⟨⟨by decide +kernel, by decide +kernel⟩, jT 608 rfl, jT 2 (by decide +kernel), by decide, by decide, ⟨by decide +kernel, jT 606 (by decide +kernel), jT 607 (by decide +kernel), 5, rfl, by decide +kernel, by decide⟩⟩
set_option maxRecDepth 100000 in
theorem jokc_50 : jokc jy_50.2.2.2.1 (Nat.beq jy_50.2.2.2.2.1 2) jy_50.2.1 jy_50.2.2.2.2.2 0 jc_50 = true := by decide +kernel
theorem jok_50 : jMok (jc_50, 2, 0, 2, 0, 6, 2) jy_50 := ⟨by decide +kernel, by decide +kernel, rfl, jokc_50, rfl, fun h => absurd h (by decide)⟩
set_option maxRecDepth 100000 in
theorem jca_50 : jMcall (jc_50, 2, 0, 2, 0, 6, 2) jy_50 := ⟨⟨by decide +kernel, by decide +kernel⟩, jT 616 rfl, jT 2 (by decide +kernel), by decide, by decide, ⟨by decide +kernel, jT 615 (by decide +kernel), jTS (q := (⟨"CrowRota$Reader", "fail", "(I)Z"⟩, 9)) (List.mem_of_getElem? (i := 7) (by decide +kernel)), 5, rfl, by decide +kernel, by decide⟩⟩
set_option maxRecDepth 100000 in
theorem jokc_51 : jokc jy_51.2.2.2.1 (Nat.beq jy_51.2.2.2.2.1 2) jy_51.2.1 jy_51.2.2.2.2.2 0 jc_51 = true := by decide +kernel
theorem jok_51 : jMok (jc_51, 2, 0, 1, 6, 6, 2) jy_51 := ⟨by decide +kernel, by decide +kernel, rfl, jokc_51, rfl, fun h => absurd h (by decide)⟩
set_option maxRecDepth 100000 in
theorem jca_51 : jMcall (jc_51, 2, 0, 1, 6, 6, 2) jy_51 := ⟨⟨by decide +kernel, by decide +kernel⟩, jT 612 rfl, jT 2 (by decide +kernel), by decide, by decide, ⟨by decide +kernel, jT 610 (by decide +kernel), jT 611 (by decide +kernel), 5, rfl, by decide +kernel, by decide⟩⟩
set_option maxRecDepth 100000 in
theorem jokc_52 : jokc jy_52.2.2.2.1 (Nat.beq jy_52.2.2.2.2.1 2) jy_52.2.1 jy_52.2.2.2.2.2 0 jc_52 = true := by decide +kernel
theorem jok_52 : jMok (jc_52, 3, 0, 3, 1, 6, 2) jy_52 := ⟨by decide +kernel, by decide +kernel, rfl, jokc_52, rfl, fun h => absurd h (by decide)⟩
set_option maxRecDepth 100000 in
theorem jca_52 : jMcall (jc_52, 3, 0, 3, 1, 6, 2) jy_52 := ⟨⟨by decide +kernel, by decide +kernel⟩, jT 629 rfl, jT 2 (by decide +kernel), by decide, by decide, ⟨by decide +kernel, jT 628 (by decide +kernel), jTS (q := (⟨"CrowRota$Reader", "isNumber", "(II)Z"⟩, 9)) (List.mem_of_getElem? (i := 10) (by decide +kernel)), 5, rfl, by decide +kernel, by decide⟩⟩
set_option maxRecDepth 100000 in
theorem jokc_53 : jokc jy_53.2.2.2.1 (Nat.beq jy_53.2.2.2.2.1 2) jy_53.2.1 jy_53.2.2.2.2.2 0 jc_53 = true := by decide +kernel
theorem jok_53 : jMok (jc_53, 2, 0, 1, 3, 6, 1) jy_53 := ⟨by decide +kernel, by decide +kernel, rfl, jokc_53, rfl, fun h => absurd h (by decide)⟩
set_option maxRecDepth 100000 in
theorem jca_53 : jMcall (jc_53, 2, 0, 1, 3, 6, 1) jy_53 := ⟨⟨by decide +kernel, by decide +kernel⟩, jT 633 rfl, jT 2 (by decide +kernel), by decide, by decide, ⟨by decide +kernel, jT 632 (by decide +kernel), jTS (q := (⟨"CrowRota$Reader", "take", "()I"⟩, 9)) (List.mem_of_getElem? (i := 11) (by decide +kernel)), 5, rfl, by decide +kernel, by decide⟩⟩
set_option maxRecDepth 100000 in
theorem jokc_54 : jokc jy_54.2.2.2.1 (Nat.beq jy_54.2.2.2.2.1 2) jy_54.2.1 jy_54.2.2.2.2.2 0 jc_54 = true := by decide +kernel
theorem jok_54 : jMok (jc_54, 2, 0, 2, 1, 6, 2) jy_54 := ⟨by decide +kernel, by decide +kernel, rfl, jokc_54, rfl, fun h => absurd h (by decide)⟩
set_option maxRecDepth 100000 in
theorem jca_54 : jMcall (jc_54, 2, 0, 2, 1, 6, 2) jy_54 := ⟨⟨by decide +kernel, by decide +kernel⟩, jT 624 rfl, jT 2 (by decide +kernel), by decide, by decide, ⟨by decide +kernel, jT 623 (by decide +kernel), jTS (q := (⟨"CrowRota$Reader", "isFirst", "(I)Z"⟩, 9)) (List.mem_of_getElem? (i := 9) (by decide +kernel)), 5, rfl, by decide +kernel, by decide⟩⟩
set_option maxRecDepth 100000 in
theorem jokc_55 : jokc jy_55.2.2.2.1 (Nat.beq jy_55.2.2.2.2.1 2) jy_55.2.1 jy_55.2.2.2.2.2 0 jc_55 = true := by decide +kernel
theorem jok_55 : jMok (jc_55, 1, 0, 1, 4, 6, 2) jy_55 := ⟨by decide +kernel, by decide +kernel, rfl, jokc_55, rfl, fun h => absurd h (by decide)⟩
set_option maxRecDepth 100000 in
theorem jca_55 : jMcall (jc_55, 1, 0, 1, 4, 6, 2) jy_55 := ⟨⟨by decide +kernel, by decide +kernel⟩, jT 620 rfl, jT 2 (by decide +kernel), by decide, by decide, ⟨by decide +kernel, jT 619 (by decide +kernel), jTS (q := (⟨"CrowRota$Reader", "readField", "()Z"⟩, 9)) (List.mem_of_getElem? (i := 8) (by decide +kernel)), 5, rfl, by decide +kernel, by decide⟩⟩
set_option maxRecDepth 100000 in
theorem jokc_56 : jokc jy_56.2.2.2.1 (Nat.beq jy_56.2.2.2.2.1 2) jy_56.2.1 jy_56.2.2.2.2.2 0 jc_56 = true := by decide +kernel
theorem jok_56 : jMok (jc_56, 3, 0, 1, 4, 6, 2) jy_56 := ⟨by decide +kernel, by decide +kernel, rfl, jokc_56, rfl, fun h => absurd h (by decide)⟩
set_option maxRecDepth 100000 in
theorem jca_56 : jMcall (jc_56, 3, 0, 1, 4, 6, 2) jy_56 := ⟨⟨by decide +kernel, by decide +kernel⟩, jT 637 rfl, jT 2 (by decide +kernel), by decide, by decide, ⟨by decide +kernel, jT 636 (by decide +kernel), jTS (q := (⟨"CrowRota$Reader", "readCrop", "()Z"⟩, 9)) (List.mem_of_getElem? (i := 12) (by decide +kernel)), 5, rfl, by decide +kernel, by decide⟩⟩
set_option maxRecDepth 100000 in
theorem jokc_57 : jokc jy_57.2.2.2.1 (Nat.beq jy_57.2.2.2.2.1 2) jy_57.2.1 jy_57.2.2.2.2.2 0 jc_57 = true := by decide +kernel
theorem jok_57 : jMok (jc_57, 3, 0, 1, 5, 6, 2) jy_57 := ⟨by decide +kernel, by decide +kernel, rfl, jokc_57, rfl, fun h => absurd h (by decide)⟩
set_option maxRecDepth 100000 in
theorem jca_57 : jMcall (jc_57, 3, 0, 1, 5, 6, 2) jy_57 := ⟨⟨by decide +kernel, by decide +kernel⟩, jT 641 rfl, jT 2 (by decide +kernel), by decide, by decide, ⟨by decide +kernel, jT 640 (by decide +kernel), jTS (q := (⟨"CrowRota$Reader", "readScare", "()Z"⟩, 9)) (List.mem_of_getElem? (i := 13) (by decide +kernel)), 5, rfl, by decide +kernel, by decide⟩⟩
set_option maxRecDepth 100000 in
theorem jokc_58 : jokc jy_58.2.2.2.1 (Nat.beq jy_58.2.2.2.2.1 2) jy_58.2.1 jy_58.2.2.2.2.2 0 jc_58 = true := by decide +kernel
theorem jok_58 : jMok (jc_58, 2, 0, 2, 4, 6, 2) jy_58 := ⟨by decide +kernel, by decide +kernel, rfl, jokc_58, rfl, fun h => absurd h (by decide)⟩
set_option maxRecDepth 100000 in
theorem jca_58 : jMcall (jc_58, 2, 0, 2, 4, 6, 2) jy_58 := ⟨⟨by decide +kernel, by decide +kernel⟩, jT 649 rfl, jT 2 (by decide +kernel), by decide, by decide, ⟨by decide +kernel, jT 648 (by decide +kernel), jTS (q := (⟨"CrowRota$Reader", "readTraits", "(I)Z"⟩, 9)) (List.mem_of_getElem? (i := 14) (by decide +kernel)), 5, rfl, by decide +kernel, by decide⟩⟩
set_option maxRecDepth 100000 in
theorem jokc_59 : jokc jy_59.2.2.2.1 (Nat.beq jy_59.2.2.2.2.1 2) jy_59.2.1 jy_59.2.2.2.2.2 0 jc_59 = true := by decide +kernel
theorem jok_59 : jMok (jc_59, 4, 0, 1, 4, 6, 2) jy_59 := ⟨by decide +kernel, by decide +kernel, rfl, jokc_59, rfl, fun h => absurd h (by decide)⟩
set_option maxRecDepth 100000 in
theorem jca_59 : jMcall (jc_59, 4, 0, 1, 4, 6, 2) jy_59 := ⟨⟨by decide +kernel, by decide +kernel⟩, jT 653 rfl, jT 2 (by decide +kernel), by decide, by decide, ⟨by decide +kernel, jT 652 (by decide +kernel), jTS (q := (⟨"CrowRota$Reader", "readFlap", "()Z"⟩, 9)) (List.mem_of_getElem? (i := 15) (by decide +kernel)), 5, rfl, by decide +kernel, by decide⟩⟩
set_option maxRecDepth 100000 in
theorem jokc_60 : jokc jy_60.2.2.2.1 (Nat.beq jy_60.2.2.2.2.1 2) jy_60.2.1 jy_60.2.2.2.2.2 0 jc_60 = true := by decide +kernel
theorem jok_60 : jMok (jc_60, 1, 0, 1, 4, 6, 2) jy_60 := ⟨by decide +kernel, by decide +kernel, rfl, jokc_60, rfl, fun h => absurd h (by decide)⟩
set_option maxRecDepth 100000 in
theorem jca_60 : jMcall (jc_60, 1, 0, 1, 4, 6, 2) jy_60 := ⟨⟨by decide +kernel, by decide +kernel⟩, jT 657 rfl, jT 2 (by decide +kernel), by decide, by decide, ⟨by decide +kernel, jT 656 (by decide +kernel), jTS (q := (⟨"CrowRota$Reader", "readWind", "()Z"⟩, 9)) (List.mem_of_getElem? (i := 16) (by decide +kernel)), 5, rfl, by decide +kernel, by decide⟩⟩
set_option maxRecDepth 100000 in
theorem jokc_61 : jokc jy_61.2.2.2.1 (Nat.beq jy_61.2.2.2.2.1 2) jy_61.2.1 jy_61.2.2.2.2.2 0 jc_61 = true := by decide +kernel
theorem jok_61 : jMok (jc_61, 3, 0, 2, 4, 6, 2) jy_61 := ⟨by decide +kernel, by decide +kernel, rfl, jokc_61, rfl, fun h => absurd h (by decide)⟩
set_option maxRecDepth 100000 in
theorem jca_61 : jMcall (jc_61, 3, 0, 2, 4, 6, 2) jy_61 := ⟨⟨by decide +kernel, by decide +kernel⟩, jT 713 rfl, jT 2 (by decide +kernel), by decide, by decide, ⟨by decide +kernel, jT 712 (by decide +kernel), jTS (q := (⟨"CrowRota$Reader", "readSingle", "(I)Z"⟩, 9)) (List.mem_of_getElem? (i := 27) (by decide +kernel)), 5, rfl, by decide +kernel, by decide⟩⟩
set_option maxRecDepth 100000 in
theorem jokc_62 : jokc jy_62.2.2.2.1 (Nat.beq jy_62.2.2.2.2.1 2) jy_62.2.1 jy_62.2.2.2.2.2 0 jc_62 = true := by decide +kernel
theorem jok_62 : jMok (jc_62, 1, 0, 1, 0, 0, 1) jy_62 := ⟨by decide +kernel, by decide +kernel, rfl, jokc_62, rfl, fun h => absurd h (by decide)⟩
set_option maxRecDepth 100000 in
theorem jca_62 : jMcall (jc_62, 1, 0, 1, 0, 0, 1) jy_62 := ⟨⟨by decide +kernel, by decide +kernel⟩, jT 716 rfl, jT 2 (by decide +kernel), by decide, by decide, ⟨by decide +kernel, jT 715 (by decide +kernel)⟩⟩
set_option maxRecDepth 100000 in
theorem jokc_63 : jokc jy_63.2.2.2.1 (Nat.beq jy_63.2.2.2.2.1 2) jy_63.2.1 jy_63.2.2.2.2.2 0 jc_63 = true := by decide +kernel
theorem jok_63 : jMok (jc_63, 2, 0, 1, 5, 6, 2) jy_63 := ⟨by decide +kernel, by decide +kernel, rfl, jokc_63, rfl, fun h => absurd h (by decide)⟩
set_option maxRecDepth 100000 in
theorem jca_63 : jMcall (jc_63, 2, 0, 1, 5, 6, 2) jy_63 := ⟨⟨by decide +kernel, by decide +kernel⟩, jT 661 rfl, jT 2 (by decide +kernel), by decide, by decide, ⟨by decide +kernel, jT 660 (by decide +kernel), jTS (q := (⟨"CrowRota$Reader", "readLaw", "()Z"⟩, 9)) (List.mem_of_getElem? (i := 17) (by decide +kernel)), 5, rfl, by decide +kernel, by decide⟩⟩
set_option maxRecDepth 100000 in
theorem jokc_64 : jokc jy_64.2.2.2.1 (Nat.beq jy_64.2.2.2.2.1 2) jy_64.2.1 jy_64.2.2.2.2.2 0 jc_64 = true := by decide +kernel
theorem jok_64 : jMok (jc_64, 1, 0, 1, 3, 6, 2) jy_64 := ⟨by decide +kernel, by decide +kernel, rfl, jokc_64, rfl, fun h => absurd h (by decide)⟩
set_option maxRecDepth 100000 in
theorem jca_64 : jMcall (jc_64, 1, 0, 1, 3, 6, 2) jy_64 := ⟨⟨by decide +kernel, by decide +kernel⟩, jT 681 rfl, jT 2 (by decide +kernel), by decide, by decide, ⟨by decide +kernel, jT 680 (by decide +kernel), jTS (q := (⟨"CrowRota$Reader", "takeKnot", "()Z"⟩, 9)) (List.mem_of_getElem? (i := 21) (by decide +kernel)), 5, rfl, by decide +kernel, by decide⟩⟩
set_option maxRecDepth 100000 in
theorem jokc_65 : jokc jy_65.2.2.2.1 (Nat.beq jy_65.2.2.2.2.1 2) jy_65.2.1 jy_65.2.2.2.2.2 0 jc_65 = true := by decide +kernel
theorem jok_65 : jMok (jc_65, 3, 0, 3, 1, 6, 2) jy_65 := ⟨by decide +kernel, by decide +kernel, rfl, jokc_65, rfl, fun h => absurd h (by decide)⟩
set_option maxRecDepth 100000 in
theorem jca_65 : jMcall (jc_65, 3, 0, 3, 1, 6, 2) jy_65 := ⟨⟨by decide +kernel, by decide +kernel⟩, jT 701 rfl, jT 2 (by decide +kernel), by decide, by decide, ⟨by decide +kernel, jT 700 (by decide +kernel), jTS (q := (⟨"CrowRota$Reader", "emit", "(II)Z"⟩, 9)) (List.mem_of_getElem? (i := 26) (by decide +kernel)), 5, rfl, by decide +kernel, by decide⟩⟩
set_option maxRecDepth 100000 in
theorem jokc_66 : jokc jy_66.2.2.2.1 (Nat.beq jy_66.2.2.2.2.1 2) jy_66.2.1 jy_66.2.2.2.2.2 0 jc_66 = true := by decide +kernel
theorem jok_66 : jMok (jc_66, 3, 0, 2, 4, 6, 2) jy_66 := ⟨by decide +kernel, by decide +kernel, rfl, jokc_66, rfl, fun h => absurd h (by decide)⟩
set_option maxRecDepth 100000 in
theorem jca_66 : jMcall (jc_66, 3, 0, 2, 4, 6, 2) jy_66 := ⟨⟨by decide +kernel, by decide +kernel⟩, jT 665 rfl, jT 2 (by decide +kernel), by decide, by decide, ⟨by decide +kernel, jT 664 (by decide +kernel), jTS (q := (⟨"CrowRota$Reader", "readEither", "(I)Z"⟩, 9)) (List.mem_of_getElem? (i := 18) (by decide +kernel)), 5, rfl, by decide +kernel, by decide⟩⟩
set_option maxRecDepth 100000 in
theorem jokc_67 : jokc jy_67.2.2.2.1 (Nat.beq jy_67.2.2.2.2.1 2) jy_67.2.1 jy_67.2.2.2.2.2 0 jc_67 = true := by decide +kernel
theorem jok_67 : jMok (jc_67, 3, 0, 2, 4, 6, 2) jy_67 := ⟨by decide +kernel, by decide +kernel, rfl, jokc_67, rfl, fun h => absurd h (by decide)⟩
set_option maxRecDepth 100000 in
theorem jca_67 : jMcall (jc_67, 3, 0, 2, 4, 6, 2) jy_67 := ⟨⟨by decide +kernel, by decide +kernel⟩, jT 669 rfl, jT 2 (by decide +kernel), by decide, by decide, ⟨by decide +kernel, jT 668 (by decide +kernel), jTS (q := (⟨"CrowRota$Reader", "readAll", "(I)Z"⟩, 9)) (List.mem_of_getElem? (i := 19) (by decide +kernel)), 5, rfl, by decide +kernel, by decide⟩⟩
set_option maxRecDepth 100000 in
theorem jokc_68 : jokc jy_68.2.2.2.1 (Nat.beq jy_68.2.2.2.2.1 2) jy_68.2.1 jy_68.2.2.2.2.2 0 jc_68 = true := by decide +kernel
theorem jok_68 : jMok (jc_68, 4, 0, 2, 4, 6, 2) jy_68 := ⟨by decide +kernel, by decide +kernel, rfl, jokc_68, rfl, fun h => absurd h (by decide)⟩
set_option maxRecDepth 100000 in
theorem jca_68 : jMcall (jc_68, 4, 0, 2, 4, 6, 2) jy_68 := ⟨⟨by decide +kernel, by decide +kernel⟩, jT 673 rfl, jT 2 (by decide +kernel), by decide, by decide, ⟨by decide +kernel, jT 672 (by decide +kernel), jTS (q := (⟨"CrowRota$Reader", "readTruth", "(I)Z"⟩, 9)) (List.mem_of_getElem? (i := 20) (by decide +kernel)), 5, rfl, by decide +kernel, by decide⟩⟩
set_option maxRecDepth 100000 in
theorem jokc_69 : jokc jy_69.2.2.2.1 (Nat.beq jy_69.2.2.2.2.1 2) jy_69.2.1 jy_69.2.2.2.2.2 0 jc_69 = true := by decide +kernel
theorem jok_69 : jMok (jc_69, 3, 0, 2, 4, 6, 2) jy_69 := ⟨by decide +kernel, by decide +kernel, rfl, jokc_69, rfl, fun h => absurd h (by decide)⟩
set_option maxRecDepth 100000 in
theorem jca_69 : jMcall (jc_69, 3, 0, 2, 4, 6, 2) jy_69 := ⟨⟨by decide +kernel, by decide +kernel⟩, jT 685 rfl, jT 2 (by decide +kernel), by decide, by decide, ⟨by decide +kernel, jT 684 (by decide +kernel), jTS (q := (⟨"CrowRota$Reader", "readCompared", "(I)Z"⟩, 9)) (List.mem_of_getElem? (i := 22) (by decide +kernel)), 5, rfl, by decide +kernel, by decide⟩⟩
set_option maxRecDepth 100000 in
theorem jokc_70 : jokc jy_70.2.2.2.1 (Nat.beq jy_70.2.2.2.2.1 2) jy_70.2.1 jy_70.2.2.2.2.2 0 jc_70 = true := by decide +kernel
theorem jok_70 : jMok (jc_70, 4, 0, 2, 4, 6, 2) jy_70 := ⟨by decide +kernel, by decide +kernel, rfl, jokc_70, rfl, fun h => absurd h (by decide)⟩
set_option maxRecDepth 100000 in
theorem jca_70 : jMcall (jc_70, 4, 0, 2, 4, 6, 2) jy_70 := ⟨⟨by decide +kernel, by decide +kernel⟩, jT 689 rfl, jT 2 (by decide +kernel), by decide, by decide, ⟨by decide +kernel, jT 688 (by decide +kernel), jTS (q := (⟨"CrowRota$Reader", "readSum", "(I)Z"⟩, 9)) (List.mem_of_getElem? (i := 23) (by decide +kernel)), 5, rfl, by decide +kernel, by decide⟩⟩
set_option maxRecDepth 100000 in
theorem jokc_71 : jokc jy_71.2.2.2.1 (Nat.beq jy_71.2.2.2.2.1 2) jy_71.2.1 jy_71.2.2.2.2.2 0 jc_71 = true := by decide +kernel
theorem jok_71 : jMok (jc_71, 4, 0, 2, 4, 6, 2) jy_71 := ⟨by decide +kernel, by decide +kernel, rfl, jokc_71, rfl, fun h => absurd h (by decide)⟩
set_option maxRecDepth 100000 in
theorem jca_71 : jMcall (jc_71, 4, 0, 2, 4, 6, 2) jy_71 := ⟨⟨by decide +kernel, by decide +kernel⟩, jT 693 rfl, jT 2 (by decide +kernel), by decide, by decide, ⟨by decide +kernel, jT 692 (by decide +kernel), jTS (q := (⟨"CrowRota$Reader", "readProduct", "(I)Z"⟩, 9)) (List.mem_of_getElem? (i := 24) (by decide +kernel)), 5, rfl, by decide +kernel, by decide⟩⟩
set_option maxRecDepth 100000 in
theorem jokc_72 : jokc jy_72.2.2.2.1 (Nat.beq jy_72.2.2.2.2.1 2) jy_72.2.1 jy_72.2.2.2.2.2 0 jc_72 = true := by decide +kernel
theorem jok_72 : jMok (jc_72, 3, 0, 2, 4, 6, 2) jy_72 := ⟨by decide +kernel, by decide +kernel, rfl, jokc_72, rfl, fun h => absurd h (by decide)⟩
set_option maxRecDepth 100000 in
theorem jca_72 : jMcall (jc_72, 3, 0, 2, 4, 6, 2) jy_72 := ⟨⟨by decide +kernel, by decide +kernel⟩, jT 697 rfl, jT 2 (by decide +kernel), by decide, by decide, ⟨by decide +kernel, jT 696 (by decide +kernel), jTS (q := (⟨"CrowRota$Reader", "readPart", "(I)Z"⟩, 9)) (List.mem_of_getElem? (i := 25) (by decide +kernel)), 5, rfl, by decide +kernel, by decide⟩⟩
set_option maxRecDepth 100000 in
theorem jokc_73 : jokc jy_73.2.2.2.1 (Nat.beq jy_73.2.2.2.2.1 2) jy_73.2.1 jy_73.2.2.2.2.2 0 jc_73 = true := by decide +kernel
theorem jok_73 : jMok (jc_73, 1, 0, 1, 0, 7, 0) jy_73 := ⟨by decide +kernel, by decide +kernel, rfl, jokc_73, rfl, fun _ => rfl⟩
set_option maxRecDepth 100000 in
theorem jca_73 : jMcall (jc_73, 1, 0, 1, 0, 7, 0) jy_73 := ⟨⟨by decide +kernel, by decide +kernel⟩, jT 368 rfl, jT 13 (by decide +kernel), by decide, by decide, ⟨by decide +kernel, jT 367 (by decide +kernel), rfl, rfl, 6, rfl⟩⟩
set_option maxRecDepth 100000 in
theorem jokc_74 : jokc jy_74.2.2.2.1 (Nat.beq jy_74.2.2.2.2.1 2) jy_74.2.1 jy_74.2.2.2.2.2 0 jc_74 = true := by decide +kernel
theorem jok_74 : jMok (jc_74, 3, 0, 2, 2, 7, 0) jy_74 := ⟨by decide +kernel, by decide +kernel, rfl, jokc_74, rfl, fun h => absurd h (by decide)⟩
set_option maxRecDepth 100000 in
theorem jca_74 : jMcall (jc_74, 3, 0, 2, 2, 7, 0) jy_74 := ⟨⟨by decide +kernel, by decide +kernel⟩, jT 500 rfl, jT 13 (by decide +kernel), by decide, by decide, ⟨by decide +kernel, jT 498 (by decide +kernel), jT 499 (by decide +kernel), 6, rfl, by decide +kernel, by decide⟩⟩
set_option maxRecDepth 100000 in
theorem jokc_75 : jokc jy_75.2.2.2.1 (Nat.beq jy_75.2.2.2.2.1 2) jy_75.2.1 jy_75.2.2.2.2.2 0 jc_75 = true := by decide +kernel
theorem jok_75 : jMok (jc_75, 2, 0, 2, 0, 7, 0) jy_75 := ⟨by decide +kernel, by decide +kernel, rfl, jokc_75, rfl, fun h => absurd h (by decide)⟩
set_option maxRecDepth 100000 in
theorem jca_75 : jMcall (jc_75, 2, 0, 2, 0, 7, 0) jy_75 := ⟨⟨by decide +kernel, by decide +kernel⟩, jT 895 rfl, jT 13 (by decide +kernel), by decide, by decide, ⟨by decide +kernel, jT 893 (by decide +kernel), jT 894 (by decide +kernel), 6, rfl, by decide +kernel, by decide⟩⟩
set_option maxRecDepth 100000 in
theorem jokc_76 : jokc jy_76.2.2.2.1 (Nat.beq jy_76.2.2.2.2.1 2) jy_76.2.1 jy_76.2.2.2.2.2 0 jc_76 = true := by decide +kernel
theorem jok_76 : jMok (jc_76, 2, 0, 2, 1, 7, 0) jy_76 := ⟨by decide +kernel, by decide +kernel, rfl, jokc_76, rfl, fun h => absurd h (by decide)⟩
set_option maxRecDepth 100000 in
theorem jca_76 : jMcall (jc_76, 2, 0, 2, 1, 7, 0) jy_76 := ⟨⟨by decide +kernel, by decide +kernel⟩, jT 891 rfl, jT 13 (by decide +kernel), by decide, by decide, ⟨by decide +kernel, jT 889 (by decide +kernel), jT 890 (by decide +kernel), 6, rfl, by decide +kernel, by decide⟩⟩
set_option maxRecDepth 100000 in
theorem jokc_77 : jokc jy_77.2.2.2.1 (Nat.beq jy_77.2.2.2.2.1 2) jy_77.2.1 jy_77.2.2.2.2.2 0 jc_77 = true := by decide +kernel
theorem jok_77 : jMok (jc_77, 2, 0, 2, 0, 7, 2) jy_77 := ⟨by decide +kernel, by decide +kernel, rfl, jokc_77, rfl, fun h => absurd h (by decide)⟩
set_option maxRecDepth 100000 in
theorem jca_77 : jMcall (jc_77, 2, 0, 2, 0, 7, 2) jy_77 := ⟨⟨by decide +kernel, by decide +kernel⟩, jT 750 rfl, jT 13 (by decide +kernel), by decide, by decide, ⟨by decide +kernel, jT 748 (by decide +kernel), jT 749 (by decide +kernel), 6, rfl, by decide +kernel, by decide⟩⟩
set_option maxRecDepth 100000 in
theorem jokc_78 : jokc jy_78.2.2.2.1 (Nat.beq jy_78.2.2.2.2.1 2) jy_78.2.1 jy_78.2.2.2.2.2 0 jc_78 = true := by decide +kernel
theorem jok_78 : jMok (jc_78, 2, 0, 2, 0, 7, 2) jy_78 := ⟨by decide +kernel, by decide +kernel, rfl, jokc_78, rfl, fun h => absurd h (by decide)⟩
set_option maxRecDepth 100000 in
theorem jca_78 : jMcall (jc_78, 2, 0, 2, 0, 7, 2) jy_78 := ⟨⟨by decide +kernel, by decide +kernel⟩, jT 742 rfl, jT 13 (by decide +kernel), by decide, by decide, ⟨by decide +kernel, jT 740 (by decide +kernel), jT 741 (by decide +kernel), 6, rfl, by decide +kernel, by decide⟩⟩
set_option maxRecDepth 100000 in
theorem jokc_79 : jokc jy_79.2.2.2.1 (Nat.beq jy_79.2.2.2.2.1 2) jy_79.2.1 jy_79.2.2.2.2.2 0 jc_79 = true := by decide +kernel
theorem jok_79 : jMok (jc_79, 3, 0, 1, 0, 7, 1) jy_79 := ⟨by decide +kernel, by decide +kernel, rfl, jokc_79, rfl, fun h => absurd h (by decide)⟩
set_option maxRecDepth 100000 in
theorem jca_79 : jMcall (jc_79, 3, 0, 1, 0, 7, 1) jy_79 := ⟨⟨by decide +kernel, by decide +kernel⟩, jT 937 rfl, jT 13 (by decide +kernel), by decide, by decide, ⟨by decide +kernel, jT 935 (by decide +kernel), jT 936 (by decide +kernel), 6, rfl, by decide +kernel, by decide⟩⟩
set_option maxRecDepth 100000 in
theorem jokc_80 : jokc jy_80.2.2.2.1 (Nat.beq jy_80.2.2.2.2.1 2) jy_80.2.1 jy_80.2.2.2.2.2 0 jc_80 = true := by decide +kernel
theorem jok_80 : jMok (jc_80, 4, 0, 2, 0, 7, 1) jy_80 := ⟨by decide +kernel, by decide +kernel, rfl, jokc_80, rfl, fun h => absurd h (by decide)⟩
set_option maxRecDepth 100000 in
theorem jca_80 : jMcall (jc_80, 4, 0, 2, 0, 7, 1) jy_80 := ⟨⟨by decide +kernel, by decide +kernel⟩, jT 950 rfl, jT 13 (by decide +kernel), by decide, by decide, ⟨by decide +kernel, jT 948 (by decide +kernel), jT 949 (by decide +kernel), 6, rfl, by decide +kernel, by decide⟩⟩
set_option maxRecDepth 100000 in
theorem jokc_81 : jokc jy_81.2.2.2.1 (Nat.beq jy_81.2.2.2.2.1 2) jy_81.2.1 jy_81.2.2.2.2.2 0 jc_81 = true := by decide +kernel
theorem jok_81 : jMok (jc_81, 1, 0, 1, 1, 7, 0) jy_81 := ⟨by decide +kernel, by decide +kernel, rfl, jokc_81, rfl, fun h => absurd h (by decide)⟩
set_option maxRecDepth 100000 in
theorem jca_81 : jMcall (jc_81, 1, 0, 1, 1, 7, 0) jy_81 := ⟨⟨by decide +kernel, by decide +kernel⟩, jT 883 rfl, jT 13 (by decide +kernel), by decide, by decide, ⟨by decide +kernel, jT 881 (by decide +kernel), jT 882 (by decide +kernel), 6, rfl, by decide +kernel, by decide⟩⟩
set_option maxRecDepth 100000 in
theorem jokc_82 : jokc jy_82.2.2.2.1 (Nat.beq jy_82.2.2.2.2.1 2) jy_82.2.1 jy_82.2.2.2.2.2 0 jc_82 = true := by decide +kernel
theorem jok_82 : jMok (jc_82, 1, 0, 1, 0, 8, 0) jy_82 := ⟨by decide +kernel, by decide +kernel, rfl, jokc_82, rfl, fun _ => rfl⟩
set_option maxRecDepth 100000 in
theorem jca_82 : jMcall (jc_82, 1, 0, 1, 0, 8, 0) jy_82 := ⟨⟨by decide +kernel, by decide +kernel⟩, jT 432 rfl, jT 14 (by decide +kernel), by decide, by decide, ⟨by decide +kernel, jT 431 (by decide +kernel), rfl, rfl, 7, rfl⟩⟩
set_option maxRecDepth 100000 in
theorem jokc_83 : jokc jy_83.2.2.2.1 (Nat.beq jy_83.2.2.2.2.1 2) jy_83.2.1 jy_83.2.2.2.2.2 0 jc_83 = true := by decide +kernel
theorem jok_83 : jMok (jc_83, 4, 0, 4, 0, 8, 0) jy_83 := ⟨by decide +kernel, by decide +kernel, rfl, jokc_83, rfl, fun h => absurd h (by decide)⟩
set_option maxRecDepth 100000 in
theorem jca_83 : jMcall (jc_83, 4, 0, 4, 0, 8, 0) jy_83 := ⟨⟨by decide +kernel, by decide +kernel⟩, jT 835 rfl, jT 14 (by decide +kernel), by decide, by decide, ⟨by decide +kernel, jT 833 (by decide +kernel), jT 834 (by decide +kernel), 7, rfl, by decide +kernel, by decide⟩⟩
set_option maxRecDepth 100000 in
theorem jokc_84 : jokc jy_84.2.2.2.1 (Nat.beq jy_84.2.2.2.2.1 2) jy_84.2.1 jy_84.2.2.2.2.2 0 jc_84 = true := by decide +kernel
theorem jok_84 : jMok (jc_84, 2, 0, 2, 0, 8, 2) jy_84 := ⟨by decide +kernel, by decide +kernel, rfl, jokc_84, rfl, fun h => absurd h (by decide)⟩
set_option maxRecDepth 100000 in
theorem jca_84 : jMcall (jc_84, 2, 0, 2, 0, 8, 2) jy_84 := ⟨⟨by decide +kernel, by decide +kernel⟩, jT 1070 rfl, jT 14 (by decide +kernel), by decide, by decide, ⟨by decide +kernel, jT 1068 (by decide +kernel), jT 1069 (by decide +kernel), 7, rfl, by decide +kernel, by decide⟩⟩
set_option maxRecDepth 100000 in
theorem jokc_85 : jokc jy_85.2.2.2.1 (Nat.beq jy_85.2.2.2.2.1 2) jy_85.2.1 jy_85.2.2.2.2.2 0 jc_85 = true := by decide +kernel
theorem jok_85 : jMok (jc_85, 5, 0, 1, 1, 9, 0) jy_85 := ⟨by decide +kernel, by decide +kernel, rfl, jokc_85, rfl, fun _ => rfl⟩
set_option maxRecDepth 100000 in
theorem jca_85 : jMcall (jc_85, 5, 0, 1, 1, 9, 0) jy_85 := ⟨⟨by decide +kernel, by decide +kernel⟩, jT 44 rfl, jT 3 (by decide +kernel), by decide, by decide, ⟨by decide +kernel, jT 43 (by decide +kernel), rfl, rfl, 8, rfl⟩⟩
set_option maxRecDepth 100000 in
theorem jokc_86 : jokc jy_86.2.2.2.1 (Nat.beq jy_86.2.2.2.2.1 2) jy_86.2.1 jy_86.2.2.2.2.2 0 jc_86 = true := by decide +kernel
theorem jok_86 : jMok (jc_86, 3, 0, 3, 0, 0, 1) jy_86 := ⟨by decide +kernel, by decide +kernel, rfl, jokc_86, rfl, fun h => absurd h (by decide)⟩
set_option maxRecDepth 100000 in
theorem jca_86 : jMcall (jc_86, 3, 0, 3, 0, 0, 1) jy_86 := ⟨⟨by decide +kernel, by decide +kernel⟩, jT 97 rfl, jT 3 (by decide +kernel), by decide, by decide, ⟨by decide +kernel, jT 96 (by decide +kernel)⟩⟩
set_option maxRecDepth 100000 in
theorem jokc_87 : jokc jy_87.2.2.2.1 (Nat.beq jy_87.2.2.2.2.1 2) jy_87.2.1 jy_87.2.2.2.2.2 0 jc_87 = true := by decide +kernel
theorem jok_87 : jMok (jc_87, 2, 0, 2, 3, 9, 0) jy_87 := ⟨by decide +kernel, by decide +kernel, rfl, jokc_87, rfl, fun h => absurd h (by decide)⟩
set_option maxRecDepth 100000 in
theorem jca_87 : jMcall (jc_87, 2, 0, 2, 3, 9, 0) jy_87 := ⟨⟨by decide +kernel, by decide +kernel⟩, jT 573 rfl, jT 3 (by decide +kernel), by decide, by decide, ⟨by decide +kernel, jT 571 (by decide +kernel), jT 572 (by decide +kernel), 8, rfl, by decide +kernel, by decide⟩⟩
set_option maxRecDepth 100000 in
theorem jokc_88 : jokc jy_88.2.2.2.1 (Nat.beq jy_88.2.2.2.2.1 2) jy_88.2.1 jy_88.2.2.2.2.2 0 jc_88 = true := by decide +kernel
theorem jok_88 : jMok (jc_88, 1, 0, 1, 2, 9, 0) jy_88 := ⟨by decide +kernel, by decide +kernel, rfl, jokc_88, rfl, fun h => absurd h (by decide)⟩
set_option maxRecDepth 100000 in
theorem jca_88 : jMcall (jc_88, 1, 0, 1, 2, 9, 0) jy_88 := ⟨⟨by decide +kernel, by decide +kernel⟩, jT 580 rfl, jT 3 (by decide +kernel), by decide, by decide, ⟨by decide +kernel, jT 578 (by decide +kernel), jT 579 (by decide +kernel), 8, rfl, by decide +kernel, by decide⟩⟩
set_option maxRecDepth 100000 in
theorem jokc_89 : jokc jy_89.2.2.2.1 (Nat.beq jy_89.2.2.2.2.1 2) jy_89.2.1 jy_89.2.2.2.2.2 0 jc_89 = true := by decide +kernel
theorem jok_89 : jMok (jc_89, 2, 0, 2, 0, 9, 2) jy_89 := ⟨by decide +kernel, by decide +kernel, rfl, jokc_89, rfl, fun h => absurd h (by decide)⟩
set_option maxRecDepth 100000 in
theorem jca_89 : jMcall (jc_89, 2, 0, 2, 0, 9, 2) jy_89 := ⟨⟨by decide +kernel, by decide +kernel⟩, jT 709 rfl, jT 3 (by decide +kernel), by decide, by decide, ⟨by decide +kernel, jT 707 (by decide +kernel), jT 708 (by decide +kernel), 8, rfl, by decide +kernel, by decide⟩⟩
set_option maxRecDepth 100000 in
theorem jokc_90 : jokc jy_90.2.2.2.1 (Nat.beq jy_90.2.2.2.2.1 2) jy_90.2.1 jy_90.2.2.2.2.2 0 jc_90 = true := by decide +kernel
theorem jok_90 : jMok (jc_90, 2, 0, 2, 0, 9, 2) jy_90 := ⟨by decide +kernel, by decide +kernel, rfl, jokc_90, rfl, fun h => absurd h (by decide)⟩
set_option maxRecDepth 100000 in
theorem jca_90 : jMcall (jc_90, 2, 0, 2, 0, 9, 2) jy_90 := ⟨⟨by decide +kernel, by decide +kernel⟩, jT 677 rfl, jT 3 (by decide +kernel), by decide, by decide, ⟨by decide +kernel, jT 675 (by decide +kernel), jT 676 (by decide +kernel), 8, rfl, by decide +kernel, by decide⟩⟩
set_option maxRecDepth 100000 in
theorem jokc_91 : jokc jy_91.2.2.2.1 (Nat.beq jy_91.2.2.2.2.1 2) jy_91.2.1 jy_91.2.2.2.2.2 0 jc_91 = true := by decide +kernel
theorem jok_91 : jMok (jc_91, 2, 0, 2, 0, 9, 2) jy_91 := ⟨by decide +kernel, by decide +kernel, rfl, jokc_91, rfl, fun h => absurd h (by decide)⟩
set_option maxRecDepth 100000 in
theorem jca_91 : jMcall (jc_91, 2, 0, 2, 0, 9, 2) jy_91 := ⟨⟨by decide +kernel, by decide +kernel⟩, jT 584 rfl, jT 3 (by decide +kernel), by decide, by decide, ⟨by decide +kernel, jT 583 (by decide +kernel), jTS (q := (⟨"CrowRota$Tokens", "isLetter", "(I)Z"⟩, 7)) (List.mem_of_getElem? (i := 2) (by decide +kernel)), 8, rfl, by decide +kernel, by decide⟩⟩
set_option maxRecDepth 100000 in
theorem jokc_92 : jokc jy_92.2.2.2.1 (Nat.beq jy_92.2.2.2.2.1 2) jy_92.2.1 jy_92.2.2.2.2.2 0 jc_92 = true := by decide +kernel
theorem jok_92 : jMok (jc_92, 2, 0, 2, 0, 9, 2) jy_92 := ⟨by decide +kernel, by decide +kernel, rfl, jokc_92, rfl, fun h => absurd h (by decide)⟩
set_option maxRecDepth 100000 in
theorem jca_92 : jMcall (jc_92, 2, 0, 2, 0, 9, 2) jy_92 := ⟨⟨by decide +kernel, by decide +kernel⟩, jT 592 rfl, jT 3 (by decide +kernel), by decide, by decide, ⟨by decide +kernel, jT 591 (by decide +kernel), jTS (q := (⟨"CrowRota$Tokens", "isDigit", "(I)Z"⟩, 7)) (List.mem_of_getElem? (i := 4) (by decide +kernel)), 8, rfl, by decide +kernel, by decide⟩⟩
set_option maxRecDepth 100000 in
theorem jokc_93 : jokc jy_93.2.2.2.1 (Nat.beq jy_93.2.2.2.2.1 2) jy_93.2.1 jy_93.2.2.2.2.2 0 jc_93 = true := by decide +kernel
theorem jok_93 : jMok (jc_93, 4, 0, 1, 1, 9, 0) jy_93 := ⟨by decide +kernel, by decide +kernel, rfl, jokc_93, rfl, fun h => absurd h (by decide)⟩
set_option maxRecDepth 100000 in
theorem jca_93 : jMcall (jc_93, 4, 0, 1, 1, 9, 0) jy_93 := ⟨⟨by decide +kernel, by decide +kernel⟩, jT 588 rfl, jT 3 (by decide +kernel), by decide, by decide, ⟨by decide +kernel, jT 587 (by decide +kernel), jTS (q := (⟨"CrowRota$Tokens", "readWord", "()V"⟩, 7)) (List.mem_of_getElem? (i := 3) (by decide +kernel)), 8, rfl, by decide +kernel, by decide⟩⟩
set_option maxRecDepth 100000 in
theorem jokc_94 : jokc jy_94.2.2.2.1 (Nat.beq jy_94.2.2.2.2.1 2) jy_94.2.1 jy_94.2.2.2.2.2 0 jc_94 = true := by decide +kernel
theorem jok_94 : jMok (jc_94, 1, 0, 1, 1, 9, 0) jy_94 := ⟨by decide +kernel, by decide +kernel, rfl, jokc_94, rfl, fun h => absurd h (by decide)⟩
set_option maxRecDepth 100000 in
theorem jca_94 : jMcall (jc_94, 1, 0, 1, 1, 9, 0) jy_94 := ⟨⟨by decide +kernel, by decide +kernel⟩, jT 596 rfl, jT 3 (by decide +kernel), by decide, by decide, ⟨by decide +kernel, jT 595 (by decide +kernel), jTS (q := (⟨"CrowRota$Tokens", "readNumber", "()V"⟩, 7)) (List.mem_of_getElem? (i := 5) (by decide +kernel)), 8, rfl, by decide +kernel, by decide⟩⟩
set_option maxRecDepth 100000 in
theorem jokc_95 : jokc jy_95.2.2.2.1 (Nat.beq jy_95.2.2.2.2.1 2) jy_95.2.1 jy_95.2.2.2.2.2 0 jc_95 = true := by decide +kernel
theorem jok_95 : jMok (jc_95, 3, 0, 1, 1, 9, 0) jy_95 := ⟨by decide +kernel, by decide +kernel, rfl, jokc_95, rfl, fun h => absurd h (by decide)⟩
set_option maxRecDepth 100000 in
theorem jca_95 : jMcall (jc_95, 3, 0, 1, 1, 9, 0) jy_95 := ⟨⟨by decide +kernel, by decide +kernel⟩, jT 601 rfl, jT 3 (by decide +kernel), by decide, by decide, ⟨by decide +kernel, jT 600 (by decide +kernel), jTS (q := (⟨"CrowRota$Tokens", "readSign", "()V"⟩, 7)) (List.mem_of_getElem? (i := 6) (by decide +kernel)), 8, rfl, by decide +kernel, by decide⟩⟩
set_option maxRecDepth 100000 in
theorem jokc_96 : jokc jy_96.2.2.2.1 (Nat.beq jy_96.2.2.2.2.1 2) jy_96.2.1 jy_96.2.2.2.2.2 0 jc_96 = true := by decide +kernel
theorem jok_96 : jMok (jc_96, 1, 0, 1, 0, 0, 1) jy_96 := ⟨by decide +kernel, by decide +kernel, rfl, jokc_96, rfl, fun h => absurd h (by decide)⟩
set_option maxRecDepth 100000 in
theorem jca_96 : jMcall (jc_96, 1, 0, 1, 0, 0, 1) jy_96 := ⟨⟨by decide +kernel, by decide +kernel⟩, jT 604 rfl, jT 3 (by decide +kernel), by decide, by decide, ⟨by decide +kernel, jT 603 (by decide +kernel)⟩⟩
set_option maxRecDepth 100000 in
theorem jokc_97 : jokc jy_97.2.2.2.1 (Nat.beq jy_97.2.2.2.2.1 2) jy_97.2.1 jy_97.2.2.2.2.2 0 jc_97 = true := by decide +kernel
theorem jok_97 : jMok (jc_97, 1, 0, 1, 0, 10, 0) jy_97 := ⟨by decide +kernel, by decide +kernel, rfl, jokc_97, rfl, fun _ => rfl⟩
set_option maxRecDepth 100000 in
theorem jca_97 : jMcall (jc_97, 1, 0, 1, 0, 10, 0) jy_97 := ⟨⟨by decide +kernel, by decide +kernel⟩, jT 297 rfl, jT 12 (by decide +kernel), by decide, by decide, ⟨by decide +kernel, jT 296 (by decide +kernel), rfl, rfl, 9, rfl⟩⟩
set_option maxRecDepth 100000 in
theorem jokc_98 : jokc jy_98.2.2.2.1 (Nat.beq jy_98.2.2.2.2.1 2) jy_98.2.1 jy_98.2.2.2.2.2 0 jc_98 = true := by decide +kernel
theorem jok_98 : jMok (jc_98, 1, 0, 1, 0, 10, 0) jy_98 := ⟨by decide +kernel, by decide +kernel, rfl, jokc_98, rfl, fun h => absurd h (by decide)⟩
set_option maxRecDepth 100000 in
theorem jca_98 : jMcall (jc_98, 1, 0, 1, 0, 10, 0) jy_98 := ⟨⟨by decide +kernel, by decide +kernel⟩, jT 1058 rfl, jT 12 (by decide +kernel), by decide, by decide, ⟨by decide +kernel, jT 1056 (by decide +kernel), jT 1057 (by decide +kernel), 9, rfl, by decide +kernel, by decide⟩⟩
set_option maxRecDepth 100000 in
theorem jokc_99 : jokc jy_99.2.2.2.1 (Nat.beq jy_99.2.2.2.2.1 2) jy_99.2.1 jy_99.2.2.2.2.2 0 jc_99 = true := by decide +kernel
theorem jok_99 : jMok (jc_99, 1, 0, 1, 3, 11, 0) jy_99 := ⟨by decide +kernel, by decide +kernel, rfl, jokc_99, rfl, fun _ => rfl⟩
set_option maxRecDepth 100000 in
theorem jca_99 : jMcall (jc_99, 1, 0, 1, 3, 11, 0) jy_99 := ⟨⟨by decide +kernel, by decide +kernel⟩, jT 30 rfl, jT 1 (by decide +kernel), by decide, by decide, ⟨by decide +kernel, jT 29 (by decide +kernel), rfl, rfl, 10, rfl⟩⟩
set_option maxRecDepth 100000 in
theorem jokc_100 : jokc jy_100.2.2.2.1 (Nat.beq jy_100.2.2.2.2.1 2) jy_100.2.1 jy_100.2.2.2.2.2 0 jc_100 = true := by decide +kernel
theorem jok_100 : jMok (jc_100, 6, 0, 6, 1, 11, 1) jy_100 := ⟨by decide +kernel, by decide +kernel, rfl, jokc_100, rfl, fun h => absurd h (by decide)⟩
set_option maxRecDepth 100000 in
theorem jca_100 : jMcall (jc_100, 6, 0, 6, 1, 11, 1) jy_100 := ⟨⟨by decide +kernel, by decide +kernel⟩, jT 556 rfl, jT 1 (by decide +kernel), by decide, by decide, ⟨by decide +kernel, jT 554 (by decide +kernel), jT 555 (by decide +kernel), 10, rfl, by decide +kernel, by decide⟩⟩
set_option maxRecDepth 100000 in
theorem jokc_101 : jokc jy_101.2.2.2.1 (Nat.beq jy_101.2.2.2.2.1 2) jy_101.2.1 jy_101.2.2.2.2.2 0 jc_101 = true := by decide +kernel
theorem jok_101 : jMok (jc_101, 3, 0, 2, 0, 11, 0) jy_101 := ⟨by decide +kernel, by decide +kernel, rfl, jokc_101, rfl, fun h => absurd h (by decide)⟩
set_option maxRecDepth 100000 in
theorem jca_101 : jMcall (jc_101, 3, 0, 2, 0, 11, 0) jy_101 := ⟨⟨by decide +kernel, by decide +kernel⟩, jT 560 rfl, jT 1 (by decide +kernel), by decide, by decide, ⟨by decide +kernel, jT 559 (by decide +kernel), jTS (q := (⟨"CrowRota", "put", "(I)V"⟩, 13)) (List.mem_of_getElem? (i := 1) (by decide +kernel)), 10, rfl, by decide +kernel, by decide⟩⟩
set_option maxRecDepth 100000 in
theorem jokc_102 : jokc jy_102.2.2.2.1 (Nat.beq jy_102.2.2.2.2.1 2) jy_102.2.1 jy_102.2.2.2.2.2 0 jc_102 = true := by decide +kernel
theorem jok_102 : jMok (jc_102, 3, 0, 2, 7, 11, 1) jy_102 := ⟨by decide +kernel, by decide +kernel, rfl, jokc_102, rfl, fun h => absurd h (by decide)⟩
set_option maxRecDepth 100000 in
theorem jca_102 : jMcall (jc_102, 3, 0, 2, 7, 11, 1) jy_102 := ⟨⟨by decide +kernel, by decide +kernel⟩, jT 564 rfl, jT 1 (by decide +kernel), by decide, by decide, ⟨by decide +kernel, jT 562 (by decide +kernel), jT 563 (by decide +kernel), 10, rfl, by decide +kernel, by decide⟩⟩
set_option maxRecDepth 100000 in
theorem jokc_103 : jokc jy_103.2.2.2.1 (Nat.beq jy_103.2.2.2.2.1 2) jy_103.2.1 jy_103.2.2.2.2.2 0 jc_103 = true := by decide +kernel
theorem jok_103 : jMok (jc_103, 2, 0, 2, 0, 11, 1) jy_103 := ⟨by decide +kernel, by decide +kernel, rfl, jokc_103, rfl, fun h => absurd h (by decide)⟩
set_option maxRecDepth 100000 in
theorem jca_103 : jMcall (jc_103, 2, 0, 2, 0, 11, 1) jy_103 := ⟨⟨by decide +kernel, by decide +kernel⟩, jT 725 rfl, jT 1 (by decide +kernel), by decide, by decide, ⟨by decide +kernel, jT 723 (by decide +kernel), jT 724 (by decide +kernel), 10, rfl, by decide +kernel, by decide⟩⟩
set_option maxRecDepth 100000 in
theorem jokc_104 : jokc jy_104.2.2.2.1 (Nat.beq jy_104.2.2.2.2.1 2) jy_104.2.1 jy_104.2.2.2.2.2 0 jc_104 = true := by decide +kernel
theorem jok_104 : jMok (jc_104, 2, 0, 2, 1, 11, 1) jy_104 := ⟨by decide +kernel, by decide +kernel, rfl, jokc_104, rfl, fun h => absurd h (by decide)⟩
set_option maxRecDepth 100000 in
theorem jca_104 : jMcall (jc_104, 2, 0, 2, 1, 11, 1) jy_104 := ⟨⟨by decide +kernel, by decide +kernel⟩, jT 729 rfl, jT 1 (by decide +kernel), by decide, by decide, ⟨by decide +kernel, jT 727 (by decide +kernel), jT 728 (by decide +kernel), 10, rfl, by decide +kernel, by decide⟩⟩
set_option maxRecDepth 100000 in
theorem jca_105 : jMcall (jc_105, 3, 0, 3, 6, 11, 1) jy_105 := ⟨⟨by decide +kernel, by decide +kernel⟩, jT 1097 rfl, jT 1 (by decide +kernel), by decide, by decide, ⟨by decide +kernel, jT 1095 (by decide +kernel), jT 1096 (by decide +kernel), 10, rfl, by decide +kernel, by decide⟩⟩
set_option maxRecDepth 100000 in
theorem jokc_106 : jokc jy_106.2.2.2.1 (Nat.beq jy_106.2.2.2.2.1 2) jy_106.2.1 jy_106.2.2.2.2.2 0 jc_106 = true := by decide +kernel
theorem jok_106 : jMok (jc_106, 3, 0, 1, 5, 11, 1) jy_106 := ⟨by decide +kernel, by decide +kernel, rfl, jokc_106, rfl, fun h => absurd h (by decide)⟩
set_option maxRecDepth 100000 in
theorem jca_106 : jMcall (jc_106, 3, 0, 1, 5, 11, 1) jy_106 := ⟨⟨by decide +kernel, by decide +kernel⟩, jT 1167 rfl, jT 1 (by decide +kernel), by decide, by decide, ⟨by decide +kernel, jT 1166 (by decide +kernel), jTS (q := (⟨"CrowRota", "seenNow", "()I"⟩, 13)) (List.mem_of_getElem? (i := 38) (by decide +kernel)), 10, rfl, by decide +kernel, by decide⟩⟩
set_option maxRecDepth 100000 in
theorem jokc_107 : jokc jy_107.2.2.2.1 (Nat.beq jy_107.2.2.2.2.1 2) jy_107.2.1 jy_107.2.2.2.2.2 0 jc_107 = true := by decide +kernel
theorem jok_107 : jMok (jc_107, 3, 0, 3, 3, 11, 1) jy_107 := ⟨by decide +kernel, by decide +kernel, rfl, jokc_107, rfl, fun h => absurd h (by decide)⟩
set_option maxRecDepth 100000 in
theorem jca_107 : jMcall (jc_107, 3, 0, 3, 3, 11, 1) jy_107 := ⟨⟨by decide +kernel, by decide +kernel⟩, jT 734 rfl, jT 1 (by decide +kernel), by decide, by decide, ⟨by decide +kernel, jT 732 (by decide +kernel), jT 733 (by decide +kernel), 10, rfl, by decide +kernel, by decide⟩⟩
set_option maxRecDepth 100000 in
theorem jokc_108 : jokc jy_108.2.2.2.1 (Nat.beq jy_108.2.2.2.2.1 2) jy_108.2.1 jy_108.2.2.2.2.2 0 jc_108 = true := by decide +kernel
theorem jok_108 : jMok (jc_108, 2, 0, 2, 1, 11, 1) jy_108 := ⟨by decide +kernel, by decide +kernel, rfl, jokc_108, rfl, fun h => absurd h (by decide)⟩
set_option maxRecDepth 100000 in
theorem jca_108 : jMcall (jc_108, 2, 0, 2, 1, 11, 1) jy_108 := ⟨⟨by decide +kernel, by decide +kernel⟩, jT 763 rfl, jT 1 (by decide +kernel), by decide, by decide, ⟨by decide +kernel, jT 761 (by decide +kernel), jT 762 (by decide +kernel), 10, rfl, by decide +kernel, by decide⟩⟩
set_option maxRecDepth 100000 in
theorem jokc_109 : jokc jy_109.2.2.2.1 (Nat.beq jy_109.2.2.2.2.1 2) jy_109.2.1 jy_109.2.2.2.2.2 0 jc_109 = true := by decide +kernel
theorem jok_109 : jMok (jc_109, 3, 0, 3, 5, 11, 1) jy_109 := ⟨by decide +kernel, by decide +kernel, rfl, jokc_109, rfl, fun h => absurd h (by decide)⟩
set_option maxRecDepth 100000 in
theorem jca_109 : jMcall (jc_109, 3, 0, 3, 5, 11, 1) jy_109 := ⟨⟨by decide +kernel, by decide +kernel⟩, jT 768 rfl, jT 1 (by decide +kernel), by decide, by decide, ⟨by decide +kernel, jT 766 (by decide +kernel), jT 767 (by decide +kernel), 10, rfl, by decide +kernel, by decide⟩⟩
set_option maxRecDepth 100000 in
theorem jokc_110 : jokc jy_110.2.2.2.1 (Nat.beq jy_110.2.2.2.2.1 2) jy_110.2.1 jy_110.2.2.2.2.2 0 jc_110 = true := by decide +kernel
theorem jok_110 : jMok (jc_110, 4, 0, 4, 4, 11, 3) jy_110 := ⟨by decide +kernel, by decide +kernel, rfl, jokc_110, rfl, fun h => absurd h (by decide)⟩
set_option maxRecDepth 100000 in
theorem jca_110 : jMcall (jc_110, 4, 0, 4, 4, 11, 3) jy_110 := ⟨⟨by decide +kernel, by decide +kernel⟩, jT 814 rfl, jT 1 (by decide +kernel), by decide, by decide, ⟨by decide +kernel, jT 812 (by decide +kernel), jT 813 (by decide +kernel), 10, rfl, by decide +kernel, by decide⟩⟩
set_option maxRecDepth 100000 in
theorem jokc_111 : jokc jy_111.2.2.2.1 (Nat.beq jy_111.2.2.2.2.1 2) jy_111.2.1 jy_111.2.2.2.2.2 0 jc_111 = true := by decide +kernel
theorem jok_111 : jMok (jc_111, 5, 0, 4, 1, 11, 2) jy_111 := ⟨by decide +kernel, by decide +kernel, rfl, jokc_111, rfl, fun h => absurd h (by decide)⟩
set_option maxRecDepth 100000 in
theorem jca_111 : jMcall (jc_111, 5, 0, 4, 1, 11, 2) jy_111 := ⟨⟨by decide +kernel, by decide +kernel⟩, jT 831 rfl, jT 1 (by decide +kernel), by decide, by decide, ⟨by decide +kernel, jT 829 (by decide +kernel), jT 830 (by decide +kernel), 10, rfl, by decide +kernel, by decide⟩⟩
set_option maxRecDepth 100000 in
theorem jokc_112 : jokc jy_112.2.2.2.1 (Nat.beq jy_112.2.2.2.2.1 2) jy_112.2.1 jy_112.2.2.2.2.2 0 jc_112 = true := by decide +kernel
theorem jok_112 : jMok (jc_112, 3, 0, 3, 1, 11, 2) jy_112 := ⟨by decide +kernel, by decide +kernel, rfl, jokc_112, rfl, fun h => absurd h (by decide)⟩
set_option maxRecDepth 100000 in
theorem jca_112 : jMcall (jc_112, 3, 0, 3, 1, 11, 2) jy_112 := ⟨⟨by decide +kernel, by decide +kernel⟩, jT 840 rfl, jT 1 (by decide +kernel), by decide, by decide, ⟨by decide +kernel, jT 838 (by decide +kernel), jT 839 (by decide +kernel), 10, rfl, by decide +kernel, by decide⟩⟩
set_option maxRecDepth 100000 in
theorem jokc_113 : jokc jy_113.2.2.2.1 (Nat.beq jy_113.2.2.2.2.1 2) jy_113.2.1 jy_113.2.2.2.2.2 0 jc_113 = true := by decide +kernel
theorem jok_113 : jMok (jc_113, 3, 0, 3, 1, 11, 2) jy_113 := ⟨by decide +kernel, by decide +kernel, rfl, jokc_113, rfl, fun h => absurd h (by decide)⟩
set_option maxRecDepth 100000 in
theorem jca_113 : jMcall (jc_113, 3, 0, 3, 1, 11, 2) jy_113 := ⟨⟨by decide +kernel, by decide +kernel⟩, jT 844 rfl, jT 1 (by decide +kernel), by decide, by decide, ⟨by decide +kernel, jT 842 (by decide +kernel), jT 843 (by decide +kernel), 10, rfl, by decide +kernel, by decide⟩⟩
set_option maxRecDepth 100000 in
theorem jokc_114 : jokc jy_114.2.2.2.1 (Nat.beq jy_114.2.2.2.2.1 2) jy_114.2.1 jy_114.2.2.2.2.2 0 jc_114 = true := by decide +kernel
theorem jok_114 : jMok (jc_114, 3, 0, 2, 6, 11, 1) jy_114 := ⟨by decide +kernel, by decide +kernel, rfl, jokc_114, rfl, fun h => absurd h (by decide)⟩
set_option maxRecDepth 100000 in
theorem jca_114 : jMcall (jc_114, 3, 0, 2, 6, 11, 1) jy_114 := ⟨⟨by decide +kernel, by decide +kernel⟩, jT 848 rfl, jT 1 (by decide +kernel), by decide, by decide, ⟨by decide +kernel, jT 846 (by decide +kernel), jT 847 (by decide +kernel), 10, rfl, by decide +kernel, by decide⟩⟩
set_option maxRecDepth 100000 in
theorem jokc_115 : jokc jy_115.2.2.2.1 (Nat.beq jy_115.2.2.2.2.1 2) jy_115.2.1 jy_115.2.2.2.2.2 0 jc_115 = true := by decide +kernel
theorem jok_115 : jMok (jc_115, 3, 0, 3, 7, 11, 1) jy_115 := ⟨by decide +kernel, by decide +kernel, rfl, jokc_115, rfl, fun h => absurd h (by decide)⟩
set_option maxRecDepth 100000 in
theorem jca_115 : jMcall (jc_115, 3, 0, 3, 7, 11, 1) jy_115 := ⟨⟨by decide +kernel, by decide +kernel⟩, jT 887 rfl, jT 1 (by decide +kernel), by decide, by decide, ⟨by decide +kernel, jT 885 (by decide +kernel), jT 886 (by decide +kernel), 10, rfl, by decide +kernel, by decide⟩⟩
set_option maxRecDepth 100000 in
theorem jokc_116 : jokc jy_116.2.2.2.1 (Nat.beq jy_116.2.2.2.2.1 2) jy_116.2.1 jy_116.2.2.2.2.2 0 jc_116 = true := by decide +kernel
theorem jok_116 : jMok (jc_116, 4, 0, 2, 2, 11, 1) jy_116 := ⟨by decide +kernel, by decide +kernel, rfl, jokc_116, rfl, fun h => absurd h (by decide)⟩
set_option maxRecDepth 100000 in
theorem jca_116 : jMcall (jc_116, 4, 0, 2, 2, 11, 1) jy_116 := ⟨⟨by decide +kernel, by decide +kernel⟩, jT 904 rfl, jT 1 (by decide +kernel), by decide, by decide, ⟨by decide +kernel, jT 902 (by decide +kernel), jT 903 (by decide +kernel), 10, rfl, by decide +kernel, by decide⟩⟩
set_option maxRecDepth 100000 in
theorem jokc_117 : jokc jy_117.2.2.2.1 (Nat.beq jy_117.2.2.2.2.1 2) jy_117.2.1 jy_117.2.2.2.2.2 0 jc_117 = true := by decide +kernel
theorem jok_117 : jMok (jc_117, 8, 0, 4, 7, 11, 1) jy_117 := ⟨by decide +kernel, by decide +kernel, rfl, jokc_117, rfl, fun h => absurd h (by decide)⟩
set_option maxRecDepth 100000 in
theorem jca_117 : jMcall (jc_117, 8, 0, 4, 7, 11, 1) jy_117 := ⟨⟨by decide +kernel, by decide +kernel⟩, jT 909 rfl, jT 1 (by decide +kernel), by decide, by decide, ⟨by decide +kernel, jT 907 (by decide +kernel), jT 908 (by decide +kernel), 10, rfl, by decide +kernel, by decide⟩⟩
set_option maxRecDepth 100000 in
theorem jokc_118 : jokc jy_118.2.2.2.1 (Nat.beq jy_118.2.2.2.2.1 2) jy_118.2.1 jy_118.2.2.2.2.2 0 jc_118 = true := by decide +kernel
theorem jok_118 : jMok (jc_118, 6, 0, 1, 6, 11, 1) jy_118 := ⟨by decide +kernel, by decide +kernel, rfl, jokc_118, rfl, fun h => absurd h (by decide)⟩
set_option maxRecDepth 100000 in
theorem jca_118 : jMcall (jc_118, 6, 0, 1, 6, 11, 1) jy_118 := ⟨⟨by decide +kernel, by decide +kernel⟩, jT 929 rfl, jT 1 (by decide +kernel), by decide, by decide, ⟨by decide +kernel, jT 927 (by decide +kernel), jT 928 (by decide +kernel), 10, rfl, by decide +kernel, by decide⟩⟩
set_option maxRecDepth 100000 in
theorem jokc_119 : jokc jy_119.2.2.2.1 (Nat.beq jy_119.2.2.2.2.1 2) jy_119.2.1 jy_119.2.2.2.2.2 0 jc_119 = true := by decide +kernel
theorem jok_119 : jMok (jc_119, 2, 0, 1, 5, 11, 0) jy_119 := ⟨by decide +kernel, by decide +kernel, rfl, jokc_119, rfl, fun h => absurd h (by decide)⟩
set_option maxRecDepth 100000 in
theorem jca_119 : jMcall (jc_119, 2, 0, 1, 5, 11, 0) jy_119 := ⟨⟨by decide +kernel, by decide +kernel⟩, jT 933 rfl, jT 1 (by decide +kernel), by decide, by decide, ⟨by decide +kernel, jT 932 (by decide +kernel), jTS (q := (⟨"CrowRota", "look", "()V"⟩, 13)) (List.mem_of_getElem? (i := 33) (by decide +kernel)), 10, rfl, by decide +kernel, by decide⟩⟩
set_option maxRecDepth 100000 in
theorem jokc_120 : jokc jy_120.2.2.2.1 (Nat.beq jy_120.2.2.2.2.1 2) jy_120.2.1 jy_120.2.2.2.2.2 0 jc_120 = true := by decide +kernel
theorem jok_120 : jMok (jc_120, 8, 0, 3, 5, 11, 1) jy_120 := ⟨by decide +kernel, by decide +kernel, rfl, jokc_120, rfl, fun h => absurd h (by decide)⟩
set_option maxRecDepth 100000 in
theorem jca_120 : jMcall (jc_120, 8, 0, 3, 5, 11, 1) jy_120 := ⟨⟨by decide +kernel, by decide +kernel⟩, jT 941 rfl, jT 1 (by decide +kernel), by decide, by decide, ⟨by decide +kernel, jT 939 (by decide +kernel), jT 940 (by decide +kernel), 10, rfl, by decide +kernel, by decide⟩⟩
set_option maxRecDepth 100000 in
theorem jokc_121 : jokc jy_121.2.2.2.1 (Nat.beq jy_121.2.2.2.2.1 2) jy_121.2.1 jy_121.2.2.2.2.2 0 jc_121 = true := by decide +kernel
theorem jok_121 : jMok (jc_121, 6, 0, 4, 7, 11, 1) jy_121 := ⟨by decide +kernel, by decide +kernel, rfl, jokc_121, rfl, fun h => absurd h (by decide)⟩
set_option maxRecDepth 100000 in
theorem jca_121 : jMcall (jc_121, 6, 0, 4, 7, 11, 1) jy_121 := ⟨⟨by decide +kernel, by decide +kernel⟩, jT 954 rfl, jT 1 (by decide +kernel), by decide, by decide, ⟨by decide +kernel, jT 952 (by decide +kernel), jT 953 (by decide +kernel), 10, rfl, by decide +kernel, by decide⟩⟩
set_option maxRecDepth 100000 in
theorem jokc_122 : jokc jy_122.2.2.2.1 (Nat.beq jy_122.2.2.2.2.1 2) jy_122.2.1 jy_122.2.2.2.2.2 0 jc_122 = true := by decide +kernel
theorem jok_122 : jMok (jc_122, 4, 0, 4, 5, 11, 1) jy_122 := ⟨by decide +kernel, by decide +kernel, rfl, jokc_122, rfl, fun h => absurd h (by decide)⟩
set_option maxRecDepth 100000 in
theorem jca_122 : jMcall (jc_122, 4, 0, 4, 5, 11, 1) jy_122 := ⟨⟨by decide +kernel, by decide +kernel⟩, jT 961 rfl, jT 1 (by decide +kernel), by decide, by decide, ⟨by decide +kernel, jT 959 (by decide +kernel), jT 960 (by decide +kernel), 10, rfl, by decide +kernel, by decide⟩⟩
set_option maxRecDepth 100000 in
theorem jokc_123 : jokc jy_123.2.2.2.1 (Nat.beq jy_123.2.2.2.2.1 2) jy_123.2.1 jy_123.2.2.2.2.2 0 jc_123 = true := by decide +kernel
theorem jok_123 : jMok (jc_123, 2, 0, 2, 1, 11, 1) jy_123 := ⟨by decide +kernel, by decide +kernel, rfl, jokc_123, rfl, fun h => absurd h (by decide)⟩
set_option maxRecDepth 100000 in
theorem jca_123 : jMcall (jc_123, 2, 0, 2, 1, 11, 1) jy_123 := ⟨⟨by decide +kernel, by decide +kernel⟩, jT 965 rfl, jT 1 (by decide +kernel), by decide, by decide, ⟨by decide +kernel, jT 963 (by decide +kernel), jT 964 (by decide +kernel), 10, rfl, by decide +kernel, by decide⟩⟩
set_option maxRecDepth 100000 in
theorem jokc_124 : jokc jy_124.2.2.2.1 (Nat.beq jy_124.2.2.2.2.1 2) jy_124.2.1 jy_124.2.2.2.2.2 0 jc_124 = true := by decide +kernel
theorem jok_124 : jMok (jc_124, 4, 0, 1, 5, 11, 1) jy_124 := ⟨by decide +kernel, by decide +kernel, rfl, jokc_124, rfl, fun h => absurd h (by decide)⟩
set_option maxRecDepth 100000 in
theorem jca_124 : jMcall (jc_124, 4, 0, 1, 5, 11, 1) jy_124 := ⟨⟨by decide +kernel, by decide +kernel⟩, jT 969 rfl, jT 1 (by decide +kernel), by decide, by decide, ⟨by decide +kernel, jT 967 (by decide +kernel), jT 968 (by decide +kernel), 10, rfl, by decide +kernel, by decide⟩⟩
set_option maxRecDepth 100000 in
theorem jokc_125 : jokc jy_125.2.2.2.1 (Nat.beq jy_125.2.2.2.2.1 2) jy_125.2.1 jy_125.2.2.2.2.2 0 jc_125 = true := by decide +kernel
theorem jok_125 : jMok (jc_125, 10, 0, 6, 5, 11, 1) jy_125 := ⟨by decide +kernel, by decide +kernel, rfl, jokc_125, rfl, fun h => absurd h (by decide)⟩
set_option maxRecDepth 100000 in
theorem jca_125 : jMcall (jc_125, 10, 0, 6, 5, 11, 1) jy_125 := ⟨⟨by decide +kernel, by decide +kernel⟩, jT 973 rfl, jT 1 (by decide +kernel), by decide, by decide, ⟨by decide +kernel, jT 971 (by decide +kernel), jT 972 (by decide +kernel), 10, rfl, by decide +kernel, by decide⟩⟩
set_option maxRecDepth 100000 in
theorem jokc_126 : jokc jy_126.2.2.2.1 (Nat.beq jy_126.2.2.2.2.1 2) jy_126.2.1 jy_126.2.2.2.2.2 0 jc_126 = true := by decide +kernel
theorem jok_126 : jMok (jc_126, 9, 0, 3, 1, 11, 1) jy_126 := ⟨by decide +kernel, by decide +kernel, rfl, jokc_126, rfl, fun h => absurd h (by decide)⟩
set_option maxRecDepth 100000 in
theorem jca_126 : jMcall (jc_126, 9, 0, 3, 1, 11, 1) jy_126 := ⟨⟨by decide +kernel, by decide +kernel⟩, jT 995 rfl, jT 1 (by decide +kernel), by decide, by decide, ⟨by decide +kernel, jT 993 (by decide +kernel), jT 994 (by decide +kernel), 10, rfl, by decide +kernel, by decide⟩⟩
set_option maxRecDepth 100000 in
theorem jokc_127 : jokc jy_127.2.2.2.1 (Nat.beq jy_127.2.2.2.2.1 2) jy_127.2.1 jy_127.2.2.2.2.2 0 jc_127 = true := by decide +kernel
theorem jok_127 : jMok (jc_127, 5, 0, 5, 2, 11, 1) jy_127 := ⟨by decide +kernel, by decide +kernel, rfl, jokc_127, rfl, fun h => absurd h (by decide)⟩
set_option maxRecDepth 100000 in
theorem jca_127 : jMcall (jc_127, 5, 0, 5, 2, 11, 1) jy_127 := ⟨⟨by decide +kernel, by decide +kernel⟩, jT 999 rfl, jT 1 (by decide +kernel), by decide, by decide, ⟨by decide +kernel, jT 997 (by decide +kernel), jT 998 (by decide +kernel), 10, rfl, by decide +kernel, by decide⟩⟩
set_option maxRecDepth 100000 in
theorem jokc_128 : jokc jy_128.2.2.2.1 (Nat.beq jy_128.2.2.2.2.1 2) jy_128.2.1 jy_128.2.2.2.2.2 0 jc_128 = true := by decide +kernel
theorem jok_128 : jMok (jc_128, 2, 0, 2, 2, 11, 1) jy_128 := ⟨by decide +kernel, by decide +kernel, rfl, jokc_128, rfl, fun h => absurd h (by decide)⟩
set_option maxRecDepth 100000 in
theorem jca_128 : jMcall (jc_128, 2, 0, 2, 2, 11, 1) jy_128 := ⟨⟨by decide +kernel, by decide +kernel⟩, jT 1011 rfl, jT 1 (by decide +kernel), by decide, by decide, ⟨by decide +kernel, jT 1009 (by decide +kernel), jT 1010 (by decide +kernel), 10, rfl, by decide +kernel, by decide⟩⟩
set_option maxRecDepth 100000 in
theorem jokc_129 : jokc jy_129.2.2.2.1 (Nat.beq jy_129.2.2.2.2.1 2) jy_129.2.1 jy_129.2.2.2.2.2 0 jc_129 = true := by decide +kernel
theorem jok_129 : jMok (jc_129, 2, 0, 2, 1, 11, 2) jy_129 := ⟨by decide +kernel, by decide +kernel, rfl, jokc_129, rfl, fun h => absurd h (by decide)⟩
set_option maxRecDepth 100000 in
theorem jca_129 : jMcall (jc_129, 2, 0, 2, 1, 11, 2) jy_129 := ⟨⟨by decide +kernel, by decide +kernel⟩, jT 1019 rfl, jT 1 (by decide +kernel), by decide, by decide, ⟨by decide +kernel, jT 1017 (by decide +kernel), jT 1018 (by decide +kernel), 10, rfl, by decide +kernel, by decide⟩⟩
