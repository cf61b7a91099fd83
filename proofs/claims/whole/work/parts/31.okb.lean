set_option maxRecDepth 100000 in
theorem jokc_130 : jokc jy_130.2.2.2.1 (Nat.beq jy_130.2.2.2.2.1 2) jy_130.2.1 jy_130.2.2.2.2.2 0 jc_130 = true := by decide +kernel
theorem jok_130 : jMok (jc_130, 8, 0, 2, 6, 11, 1) jy_130 := ⟨by decide +kernel, by decide +kernel, rfl, jokc_130, rfl, fun h => absurd h (by decide)⟩
set_option maxRecDepth 100000 in
theorem jca_130 : jMcall (jc_130, 8, 0, 2, 6, 11, 1) jy_130 := ⟨⟨by decide +kernel, by decide +kernel⟩, jT 1027 rfl, jT 1 (by decide +kernel), by decide, by decide, ⟨by decide +kernel, jT 1025 (by decide +kernel), jT 1026 (by decide +kernel), 10, rfl, by decide +kernel, by decide⟩⟩
set_option maxRecDepth 100000 in
theorem jokc_131 : jokc jy_131.2.2.2.1 (Nat.beq jy_131.2.2.2.2.1 2) jy_131.2.1 jy_131.2.2.2.2.2 0 jc_131 = true := by decide +kernel
theorem jok_131 : jMok (jc_131, 10, 10, 4, 7, 11, 1) jy_131 := ⟨by decide +kernel, by decide +kernel, rfl, jokc_131, rfl, fun h => absurd h (by decide)⟩
set_option maxRecDepth 100000 in
theorem jca_131 : jMcall (jc_131, 10, 10, 4, 7, 11, 1) jy_131 := ⟨⟨by decide +kernel, by decide +kernel⟩, jT 1049 rfl, jT 1 (by decide +kernel), by decide, by decide, ⟨by decide +kernel, jT 1047 (by decide +kernel), jT 1048 (by decide +kernel), 10, rfl, by decide +kernel, by decide⟩⟩
set_option maxRecDepth 100000 in
theorem jokc_132 : jokc jy_132.2.2.2.1 (Nat.beq jy_132.2.2.2.2.1 2) jy_132.2.1 jy_132.2.2.2.2.2 0 jc_132 = true := by decide +kernel
theorem jok_132 : jMok (jc_132, 5, 0, 4, 7, 11, 1) jy_132 := ⟨by decide +kernel, by decide +kernel, rfl, jokc_132, rfl, fun h => absurd h (by decide)⟩
set_option maxRecDepth 100000 in
theorem jca_132 : jMcall (jc_132, 5, 0, 4, 7, 11, 1) jy_132 := ⟨⟨by decide +kernel, by decide +kernel⟩, jT 1062 rfl, jT 1 (by decide +kernel), by decide, by decide, ⟨by decide +kernel, jT 1060 (by decide +kernel), jT 1061 (by decide +kernel), 10, rfl, by decide +kernel, by decide⟩⟩
set_option maxRecDepth 100000 in
theorem jokc_133 : jokc jy_133.2.2.2.1 (Nat.beq jy_133.2.2.2.2.1 2) jy_133.2.1 jy_133.2.2.2.2.2 0 jc_133 = true := by decide +kernel
theorem jok_133 : jMok (jc_133, 1, 0, 1, 1, 11, 1) jy_133 := ⟨by decide +kernel, by decide +kernel, rfl, jokc_133, rfl, fun h => absurd h (by decide)⟩
set_option maxRecDepth 100000 in
theorem jca_133 : jMcall (jc_133, 1, 0, 1, 1, 11, 1) jy_133 := ⟨⟨by decide +kernel, by decide +kernel⟩, jT 1066 rfl, jT 1 (by decide +kernel), by decide, by decide, ⟨by decide +kernel, jT 1064 (by decide +kernel), jT 1065 (by decide +kernel), 10, rfl, by decide +kernel, by decide⟩⟩
set_option maxRecDepth 100000 in
theorem jokc_134 : jokc jy_134.2.2.2.1 (Nat.beq jy_134.2.2.2.2.1 2) jy_134.2.1 jy_134.2.2.2.2.2 0 jc_134 = true := by decide +kernel
theorem jok_134 : jMok (jc_134, 1, 0, 1, 1, 11, 1) jy_134 := ⟨by decide +kernel, by decide +kernel, rfl, jokc_134, rfl, fun h => absurd h (by decide)⟩
set_option maxRecDepth 100000 in
theorem jca_134 : jMcall (jc_134, 1, 0, 1, 1, 11, 1) jy_134 := ⟨⟨by decide +kernel, by decide +kernel⟩, jT 1074 rfl, jT 1 (by decide +kernel), by decide, by decide, ⟨by decide +kernel, jT 1072 (by decide +kernel), jT 1073 (by decide +kernel), 10, rfl, by decide +kernel, by decide⟩⟩
set_option maxRecDepth 100000 in
theorem jokc_135 : jokc jy_135.2.2.2.1 (Nat.beq jy_135.2.2.2.2.1 2) jy_135.2.1 jy_135.2.2.2.2.2 0 jc_135 = true := by decide +kernel
theorem jok_135 : jMok (jc_135, 1, 0, 1, 1, 11, 1) jy_135 := ⟨by decide +kernel, by decide +kernel, rfl, jokc_135, rfl, fun h => absurd h (by decide)⟩
set_option maxRecDepth 100000 in
theorem jca_135 : jMcall (jc_135, 1, 0, 1, 1, 11, 1) jy_135 := ⟨⟨by decide +kernel, by decide +kernel⟩, jT 1079 rfl, jT 1 (by decide +kernel), by decide, by decide, ⟨by decide +kernel, jT 1077 (by decide +kernel), jT 1078 (by decide +kernel), 10, rfl, by decide +kernel, by decide⟩⟩
set_option maxRecDepth 100000 in
theorem jokc_136 : jokc jy_136.2.2.2.1 (Nat.beq jy_136.2.2.2.2.1 2) jy_136.2.1 jy_136.2.2.2.2.2 0 jc_136 = true := by decide +kernel
theorem jok_136 : jMok (jc_136, 2, 0, 2, 2, 11, 1) jy_136 := ⟨by decide +kernel, by decide +kernel, rfl, jokc_136, rfl, fun h => absurd h (by decide)⟩
set_option maxRecDepth 100000 in
theorem jca_136 : jMcall (jc_136, 2, 0, 2, 2, 11, 1) jy_136 := ⟨⟨by decide +kernel, by decide +kernel⟩, jT 1083 rfl, jT 1 (by decide +kernel), by decide, by decide, ⟨by decide +kernel, jT 1081 (by decide +kernel), jT 1082 (by decide +kernel), 10, rfl, by decide +kernel, by decide⟩⟩
set_option maxRecDepth 100000 in
theorem jokc_137 : jokc jy_137.2.2.2.1 (Nat.beq jy_137.2.2.2.2.1 2) jy_137.2.1 jy_137.2.2.2.2.2 0 jc_137 = true := by decide +kernel
theorem jok_137 : jMok (jc_137, 2, 0, 2, 1, 11, 1) jy_137 := ⟨by decide +kernel, by decide +kernel, rfl, jokc_137, rfl, fun h => absurd h (by decide)⟩
set_option maxRecDepth 100000 in
theorem jca_137 : jMcall (jc_137, 2, 0, 2, 1, 11, 1) jy_137 := ⟨⟨by decide +kernel, by decide +kernel⟩, jT 1087 rfl, jT 1 (by decide +kernel), by decide, by decide, ⟨by decide +kernel, jT 1086 (by decide +kernel), jTS (q := (⟨"CrowRota", "countMore", "(I)I"⟩, 13)) (List.mem_of_getElem? (i := 36) (by decide +kernel)), 10, rfl, by decide +kernel, by decide⟩⟩
set_option maxRecDepth 100000 in
theorem jokx_138_0 : jokl jy_138.2.2.2.1 (Nat.beq jy_138.2.2.2.2.1 2) jy_138.2.1 jy_138.2.2.2.2.2 (16 * 0) jc_138_0 = true := by decide +kernel
set_option maxRecDepth 100000 in
theorem jokx_138_1 : jokl jy_138.2.2.2.1 (Nat.beq jy_138.2.2.2.2.1 2) jy_138.2.1 jy_138.2.2.2.2.2 (16 * 1) jc_138_1 = true := by decide +kernel
set_option maxRecDepth 100000 in
theorem jokx_138_2 : jokl jy_138.2.2.2.1 (Nat.beq jy_138.2.2.2.2.1 2) jy_138.2.1 jy_138.2.2.2.2.2 (16 * 2) jc_138_2 = true := by decide +kernel
set_option maxRecDepth 100000 in
theorem jokx_138_3 : jokl jy_138.2.2.2.1 (Nat.beq jy_138.2.2.2.2.1 2) jy_138.2.1 jy_138.2.2.2.2.2 (16 * 3) jc_138_3 = true := by decide +kernel
set_option maxRecDepth 100000 in
theorem jokx_138_4 : jokl jy_138.2.2.2.1 (Nat.beq jy_138.2.2.2.2.1 2) jy_138.2.1 jy_138.2.2.2.2.2 (16 * 4) jc_138_4 = true := by decide +kernel
set_option maxRecDepth 100000 in
theorem jokx_138_5 : jokl jy_138.2.2.2.1 (Nat.beq jy_138.2.2.2.2.1 2) jy_138.2.1 jy_138.2.2.2.2.2 (16 * 5) jc_138_5 = true := by decide +kernel
set_option maxRecDepth 100000 in
theorem jokx_138_6 : jokl jy_138.2.2.2.1 (Nat.beq jy_138.2.2.2.2.1 2) jy_138.2.1 jy_138.2.2.2.2.2 (16 * 6) jc_138_6 = true := by decide +kernel
set_option maxRecDepth 100000 in
theorem jokx_138_7 : jokl jy_138.2.2.2.1 (Nat.beq jy_138.2.2.2.2.1 2) jy_138.2.1 jy_138.2.2.2.2.2 (16 * 7) jc_138_7 = true := by decide +kernel
set_option maxRecDepth 100000 in
theorem jokx_138_8 : jokl jy_138.2.2.2.1 (Nat.beq jy_138.2.2.2.2.1 2) jy_138.2.1 jy_138.2.2.2.2.2 (16 * 8) jc_138_8 = true := by decide +kernel
set_option maxRecDepth 100000 in
theorem jokx_138_9 : jokl jy_138.2.2.2.1 (Nat.beq jy_138.2.2.2.2.1 2) jy_138.2.1 jy_138.2.2.2.2.2 (16 * 9) jc_138_9 = true := by decide +kernel
set_option maxRecDepth 100000 in
theorem jokx_138_10 : jokl jy_138.2.2.2.1 (Nat.beq jy_138.2.2.2.2.1 2) jy_138.2.1 jy_138.2.2.2.2.2 (16 * 10) jc_138_10 = true := by decide +kernel
set_option maxRecDepth 100000 in
theorem jokx_138_11 : jokl jy_138.2.2.2.1 (Nat.beq jy_138.2.2.2.2.1 2) jy_138.2.1 jy_138.2.2.2.2.2 (16 * 11) jc_138_11 = true := by decide +kernel
set_option maxRecDepth 100000 in
theorem jokx_138_12 : jokl jy_138.2.2.2.1 (Nat.beq jy_138.2.2.2.2.1 2) jy_138.2.1 jy_138.2.2.2.2.2 (16 * 12) jc_138_12 = true := by decide +kernel
set_option maxRecDepth 100000 in
theorem jokx_138_13 : jokl jy_138.2.2.2.1 (Nat.beq jy_138.2.2.2.2.1 2) jy_138.2.1 jy_138.2.2.2.2.2 (16 * 13) jc_138_13 = true := by decide +kernel
set_option maxRecDepth 100000 in
theorem jokx_138_14 : jokl jy_138.2.2.2.1 (Nat.beq jy_138.2.2.2.2.1 2) jy_138.2.1 jy_138.2.2.2.2.2 (16 * 14) jc_138_14 = true := by decide +kernel
set_option maxRecDepth 100000 in
theorem jokx_138_15 : jokl jy_138.2.2.2.1 (Nat.beq jy_138.2.2.2.2.1 2) jy_138.2.1 jy_138.2.2.2.2.2 (16 * 15) jc_138_15 = true := by decide +kernel
set_option maxRecDepth 100000 in
theorem jokx_138_16 : jokl jy_138.2.2.2.1 (Nat.beq jy_138.2.2.2.2.1 2) jy_138.2.1 jy_138.2.2.2.2.2 (16 * 16) jc_138_16 = true := by decide +kernel
set_option maxRecDepth 100000 in
theorem jokc_138 : jokc jy_138.2.2.2.1 (Nat.beq jy_138.2.2.2.2.1 2) jy_138.2.1 jy_138.2.2.2.2.2 0 jc_138 = true := by
  show (jokl jy_138.2.2.2.1 (Nat.beq jy_138.2.2.2.2.1 2) jy_138.2.1 jy_138.2.2.2.2.2 (16 * 0) jc_138_0 && (jokl jy_138.2.2.2.1 (Nat.beq jy_138.2.2.2.2.1 2) jy_138.2.1 jy_138.2.2.2.2.2 (16 * 1) jc_138_1 && (jokl jy_138.2.2.2.1 (Nat.beq jy_138.2.2.2.2.1 2) jy_138.2.1 jy_138.2.2.2.2.2 (16 * 2) jc_138_2 && (jokl jy_138.2.2.2.1 (Nat.beq jy_138.2.2.2.2.1 2) jy_138.2.1 jy_138.2.2.2.2.2 (16 * 3) jc_138_3 && (jokl jy_138.2.2.2.1 (Nat.beq jy_138.2.2.2.2.1 2) jy_138.2.1 jy_138.2.2.2.2.2 (16 * 4) jc_138_4 && (jokl jy_138.2.2.2.1 (Nat.beq jy_138.2.2.2.2.1 2) jy_138.2.1 jy_138.2.2.2.2.2 (16 * 5) jc_138_5 && (jokl jy_138.2.2.2.1 (Nat.beq jy_138.2.2.2.2.1 2) jy_138.2.1 jy_138.2.2.2.2.2 (16 * 6) jc_138_6 && (jokl jy_138.2.2.2.1 (Nat.beq jy_138.2.2.2.2.1 2) jy_138.2.1 jy_138.2.2.2.2.2 (16 * 7) jc_138_7 && (jokl jy_138.2.2.2.1 (Nat.beq jy_138.2.2.2.2.1 2) jy_138.2.1 jy_138.2.2.2.2.2 (16 * 8) jc_138_8 && (jokl jy_138.2.2.2.1 (Nat.beq jy_138.2.2.2.2.1 2) jy_138.2.1 jy_138.2.2.2.2.2 (16 * 9) jc_138_9 && (jokl jy_138.2.2.2.1 (Nat.beq jy_138.2.2.2.2.1 2) jy_138.2.1 jy_138.2.2.2.2.2 (16 * 10) jc_138_10 && (jokl jy_138.2.2.2.1 (Nat.beq jy_138.2.2.2.2.1 2) jy_138.2.1 jy_138.2.2.2.2.2 (16 * 11) jc_138_11 && (jokl jy_138.2.2.2.1 (Nat.beq jy_138.2.2.2.2.1 2) jy_138.2.1 jy_138.2.2.2.2.2 (16 * 12) jc_138_12 && (jokl jy_138.2.2.2.1 (Nat.beq jy_138.2.2.2.2.1 2) jy_138.2.1 jy_138.2.2.2.2.2 (16 * 13) jc_138_13 && (jokl jy_138.2.2.2.1 (Nat.beq jy_138.2.2.2.2.1 2) jy_138.2.1 jy_138.2.2.2.2.2 (16 * 14) jc_138_14 && (jokl jy_138.2.2.2.1 (Nat.beq jy_138.2.2.2.2.1 2) jy_138.2.1 jy_138.2.2.2.2.2 (16 * 15) jc_138_15 && (jokl jy_138.2.2.2.1 (Nat.beq jy_138.2.2.2.2.1 2) jy_138.2.1 jy_138.2.2.2.2.2 (16 * 16) jc_138_16 && true))))))))))))))))) = true
  simp only [Bool.and_eq_true]
  exact ⟨jokx_138_0, jokx_138_1, jokx_138_2, jokx_138_3, jokx_138_4, jokx_138_5, jokx_138_6, jokx_138_7, jokx_138_8, jokx_138_9, jokx_138_10, jokx_138_11, jokx_138_12, jokx_138_13, jokx_138_14, jokx_138_15, jokx_138_16, trivial⟩
theorem jok_138 : jMok (jc_138, 1, 0, 1, 3, 12, 0) jy_138 := ⟨by decide +kernel, by decide +kernel, rfl, jokc_138, rfl, fun _ => rfl⟩
set_option maxRecDepth 100000 in
theorem jca_138 : jMcall (jc_138, 1, 0, 1, 3, 12, 0) jy_138 := ⟨⟨by decide +kernel, by decide +kernel⟩, jT 1188 rfl, jT 18 (by decide +kernel), by decide, by decide, ⟨by decide +kernel, jT 1187 (by decide +kernel), rfl, rfl, 11, rfl⟩⟩
set_option maxRecDepth 100000 in
theorem jokc_139 : jokc jy_139.2.2.2.1 (Nat.beq jy_139.2.2.2.2.1 2) jy_139.2.1 jy_139.2.2.2.2.2 0 jc_139 = true := by decide +kernel
theorem jok_139 : jMok (jc_139, 1, 0, 1, 0, 12, 1) jy_139 := ⟨by decide +kernel, by decide +kernel, rfl, jokc_139, rfl, fun h => absurd h (by decide)⟩
set_option maxRecDepth 100000 in
theorem jca_139 : jMcall (jc_139, 1, 0, 1, 0, 12, 1) jy_139 := ⟨⟨by decide +kernel, by decide +kernel⟩, jT 1408 rfl, jT 18 (by decide +kernel), by decide, by decide, ⟨by decide +kernel, jT 1406 (by decide +kernel), jT 1407 (by decide +kernel), 11, rfl, by decide +kernel, by decide⟩⟩
set_option maxRecDepth 100000 in
theorem jokc_140 : jokc jy_140.2.2.2.1 (Nat.beq jy_140.2.2.2.2.1 2) jy_140.2.1 jy_140.2.2.2.2.2 0 jc_140 = true := by decide +kernel
theorem jok_140 : jMok (jc_140, 8, 0, 6, 0, 12, 1) jy_140 := ⟨by decide +kernel, by decide +kernel, rfl, jokc_140, rfl, fun h => absurd h (by decide)⟩
set_option maxRecDepth 100000 in
theorem jca_140 : jMcall (jc_140, 8, 0, 6, 0, 12, 1) jy_140 := ⟨⟨by decide +kernel, by decide +kernel⟩, jT 1412 rfl, jT 18 (by decide +kernel), by decide, by decide, ⟨by decide +kernel, jT 1410 (by decide +kernel), jT 1411 (by decide +kernel), 11, rfl, by decide +kernel, by decide⟩⟩
set_option maxRecDepth 100000 in
theorem jokc_141 : jokc jy_141.2.2.2.1 (Nat.beq jy_141.2.2.2.2.1 2) jy_141.2.1 jy_141.2.2.2.2.2 0 jc_141 = true := by decide +kernel
theorem jok_141 : jMok (jc_141, 1, 0, 1, 0, 12, 1) jy_141 := ⟨by decide +kernel, by decide +kernel, rfl, jokc_141, rfl, fun h => absurd h (by decide)⟩
set_option maxRecDepth 100000 in
theorem jca_141 : jMcall (jc_141, 1, 0, 1, 0, 12, 1) jy_141 := ⟨⟨by decide +kernel, by decide +kernel⟩, jT 1428 rfl, jT 18 (by decide +kernel), by decide, by decide, ⟨by decide +kernel, jT 1427 (by decide +kernel), jTS (q := (⟨"CrowRotaModel", "here", "()I"⟩, 67)) (List.mem_of_getElem? (i := 44) (by decide +kernel)), 11, rfl, by decide +kernel, by decide⟩⟩
set_option maxRecDepth 100000 in
theorem jokc_142 : jokc jy_142.2.2.2.1 (Nat.beq jy_142.2.2.2.2.1 2) jy_142.2.1 jy_142.2.2.2.2.2 0 jc_142 = true := by decide +kernel
theorem jok_142 : jMok (jc_142, 1, 0, 1, 0, 0, 2) jy_142 := ⟨by decide +kernel, by decide +kernel, rfl, jokc_142, rfl, fun h => absurd h (by decide)⟩
set_option maxRecDepth 100000 in
theorem jca_142 : jMcall (jc_142, 1, 0, 1, 0, 0, 2) jy_142 := ⟨⟨by decide +kernel, by decide +kernel⟩, jT 1431 rfl, jT 18 (by decide +kernel), by decide, by decide, ⟨by decide +kernel, jT 1430 (by decide +kernel)⟩⟩
set_option maxRecDepth 100000 in
theorem jokc_143 : jokc jy_143.2.2.2.1 (Nat.beq jy_143.2.2.2.2.1 2) jy_143.2.1 jy_143.2.2.2.2.2 0 jc_143 = true := by decide +kernel
theorem jok_143 : jMok (jc_143, 1, 0, 1, 0, 0, 2) jy_143 := ⟨by decide +kernel, by decide +kernel, rfl, jokc_143, rfl, fun h => absurd h (by decide)⟩
set_option maxRecDepth 100000 in
theorem jca_143 : jMcall (jc_143, 1, 0, 1, 0, 0, 2) jy_143 := ⟨⟨by decide +kernel, by decide +kernel⟩, jT 1445 rfl, jT 18 (by decide +kernel), by decide, by decide, ⟨by decide +kernel, jT 1444 (by decide +kernel)⟩⟩
set_option maxRecDepth 100000 in
theorem jokc_144 : jokc jy_144.2.2.2.1 (Nat.beq jy_144.2.2.2.2.1 2) jy_144.2.1 jy_144.2.2.2.2.2 0 jc_144 = true := by decide +kernel
theorem jok_144 : jMok (jc_144, 2, 0, 1, 2, 12, 0) jy_144 := ⟨by decide +kernel, by decide +kernel, rfl, jokc_144, rfl, fun h => absurd h (by decide)⟩
set_option maxRecDepth 100000 in
theorem jca_144 : jMcall (jc_144, 2, 0, 1, 2, 12, 0) jy_144 := ⟨⟨by decide +kernel, by decide +kernel⟩, jT 1424 rfl, jT 18 (by decide +kernel), by decide, by decide, ⟨by decide +kernel, jT 1423 (by decide +kernel), jTS (q := (⟨"CrowRotaModel", "token", "()V"⟩, 67)) (List.mem_of_getElem? (i := 43) (by decide +kernel)), 11, rfl, by decide +kernel, by decide⟩⟩
set_option maxRecDepth 100000 in
theorem jokc_145 : jokc jy_145.2.2.2.1 (Nat.beq jy_145.2.2.2.2.1 2) jy_145.2.1 jy_145.2.2.2.2.2 0 jc_145 = true := by decide +kernel
theorem jok_145 : jMok (jc_145, 2, 0, 2, 1, 12, 0) jy_145 := ⟨by decide +kernel, by decide +kernel, rfl, jokc_145, rfl, fun h => absurd h (by decide)⟩
set_option maxRecDepth 100000 in
theorem jca_145 : jMcall (jc_145, 2, 0, 2, 1, 12, 0) jy_145 := ⟨⟨by decide +kernel, by decide +kernel⟩, jT 1450 rfl, jT 18 (by decide +kernel), by decide, by decide, ⟨by decide +kernel, jT 1449 (by decide +kernel), jTS (q := (⟨"CrowRotaModel", "sign", "(I)V"⟩, 67)) (List.mem_of_getElem? (i := 47) (by decide +kernel)), 11, rfl, by decide +kernel, by decide⟩⟩
set_option maxRecDepth 100000 in
theorem jokc_146 : jokc jy_146.2.2.2.1 (Nat.beq jy_146.2.2.2.2.1 2) jy_146.2.1 jy_146.2.2.2.2.2 0 jc_146 = true := by decide +kernel
theorem jok_146 : jMok (jc_146, 4, 0, 1, 0, 12, 1) jy_146 := ⟨by decide +kernel, by decide +kernel, rfl, jokc_146, rfl, fun h => absurd h (by decide)⟩
set_option maxRecDepth 100000 in
theorem jca_146 : jMcall (jc_146, 4, 0, 1, 0, 12, 1) jy_146 := ⟨⟨by decide +kernel, by decide +kernel⟩, jT 1435 rfl, jT 18 (by decide +kernel), by decide, by decide, ⟨by decide +kernel, jT 1434 (by decide +kernel), jTS (q := (⟨"CrowRotaModel", "word", "()I"⟩, 67)) (List.mem_of_getElem? (i := 45) (by decide +kernel)), 11, rfl, by decide +kernel, by decide⟩⟩
set_option maxRecDepth 100000 in
theorem jokc_147 : jokc jy_147.2.2.2.1 (Nat.beq jy_147.2.2.2.2.1 2) jy_147.2.1 jy_147.2.2.2.2.2 0 jc_147 = true := by decide +kernel
theorem jok_147 : jMok (jc_147, 2, 0, 1, 0, 12, 0) jy_147 := ⟨by decide +kernel, by decide +kernel, rfl, jokc_147, rfl, fun h => absurd h (by decide)⟩
set_option maxRecDepth 100000 in
theorem jca_147 : jMcall (jc_147, 2, 0, 1, 0, 12, 0) jy_147 := ⟨⟨by decide +kernel, by decide +kernel⟩, jT 1442 rfl, jT 18 (by decide +kernel), by decide, by decide, ⟨by decide +kernel, jT 1441 (by decide +kernel), jTS (q := (⟨"CrowRotaModel", "name", "()V"⟩, 67)) (List.mem_of_getElem? (i := 46) (by decide +kernel)), 11, rfl, by decide +kernel, by decide⟩⟩
set_option maxRecDepth 100000 in
theorem jokc_148 : jokc jy_148.2.2.2.1 (Nat.beq jy_148.2.2.2.2.1 2) jy_148.2.1 jy_148.2.2.2.2.2 0 jc_148 = true := by decide +kernel
theorem jok_148 : jMok (jc_148, 2, 0, 2, 0, 12, 0) jy_148 := ⟨by decide +kernel, by decide +kernel, rfl, jokc_148, rfl, fun h => absurd h (by decide)⟩
set_option maxRecDepth 100000 in
theorem jca_148 : jMcall (jc_148, 2, 0, 2, 0, 12, 0) jy_148 := ⟨⟨by decide +kernel, by decide +kernel⟩, jT 1458 rfl, jT 18 (by decide +kernel), by decide, by decide, ⟨by decide +kernel, jT 1457 (by decide +kernel), jTS (q := (⟨"CrowRotaModel", "wrong", "(I)V"⟩, 67)) (List.mem_of_getElem? (i := 49) (by decide +kernel)), 11, rfl, by decide +kernel, by decide⟩⟩
set_option maxRecDepth 100000 in
theorem jokc_149 : jokc jy_149.2.2.2.1 (Nat.beq jy_149.2.2.2.2.1 2) jy_149.2.1 jy_149.2.2.2.2.2 0 jc_149 = true := by decide +kernel
theorem jok_149 : jMok (jc_149, 2, 0, 2, 0, 12, 2) jy_149 := ⟨by decide +kernel, by decide +kernel, rfl, jokc_149, rfl, fun h => absurd h (by decide)⟩
set_option maxRecDepth 100000 in
theorem jca_149 : jMcall (jc_149, 2, 0, 2, 0, 12, 2) jy_149 := ⟨⟨by decide +kernel, by decide +kernel⟩, jT 1520 rfl, jT 18 (by decide +kernel), by decide, by decide, ⟨by decide +kernel, jT 1519 (by decide +kernel), jTS (q := (⟨"CrowRotaModel", "isWord", "(I)Z"⟩, 67)) (List.mem_of_getElem? (i := 63) (by decide +kernel)), 11, rfl, by decide +kernel, by decide⟩⟩
set_option maxRecDepth 100000 in
theorem jokc_150 : jokc jy_150.2.2.2.1 (Nat.beq jy_150.2.2.2.2.1 2) jy_150.2.1 jy_150.2.2.2.2.2 0 jc_150 = true := by decide +kernel
theorem jok_150 : jMok (jc_150, 2, 0, 2, 0, 12, 2) jy_150 := ⟨by decide +kernel, by decide +kernel, rfl, jokc_150, rfl, fun h => absurd h (by decide)⟩
set_option maxRecDepth 100000 in
theorem jca_150 : jMcall (jc_150, 2, 0, 2, 0, 12, 2) jy_150 := ⟨⟨by decide +kernel, by decide +kernel⟩, jT 1544 rfl, jT 18 (by decide +kernel), by decide, by decide, ⟨by decide +kernel, jT 1543 (by decide +kernel), jTS (q := (⟨"CrowRotaModel", "isSign", "(I)Z"⟩, 67)) (List.mem_of_getElem? (i := 69) (by decide +kernel)), 11, rfl, by decide +kernel, by decide⟩⟩
set_option maxRecDepth 100000 in
theorem jokc_151 : jokc jy_151.2.2.2.1 (Nat.beq jy_151.2.2.2.2.1 2) jy_151.2.1 jy_151.2.2.2.2.2 0 jc_151 = true := by decide +kernel
theorem jok_151 : jMok (jc_151, 1, 0, 1, 3, 12, 0) jy_151 := ⟨by decide +kernel, by decide +kernel, rfl, jokc_151, rfl, fun h => absurd h (by decide)⟩
set_option maxRecDepth 100000 in
theorem jca_151 : jMcall (jc_151, 1, 0, 1, 3, 12, 0) jy_151 := ⟨⟨by decide +kernel, by decide +kernel⟩, jT 1485 rfl, jT 18 (by decide +kernel), by decide, by decide, ⟨by decide +kernel, jT 1484 (by decide +kernel), jTS (q := (⟨"CrowRotaModel", "goOn", "()V"⟩, 67)) (List.mem_of_getElem? (i := 55) (by decide +kernel)), 11, rfl, by decide +kernel, by decide⟩⟩
set_option maxRecDepth 100000 in
theorem jokc_152 : jokc jy_152.2.2.2.1 (Nat.beq jy_152.2.2.2.2.1 2) jy_152.2.1 jy_152.2.2.2.2.2 0 jc_152 = true := by decide +kernel
theorem jok_152 : jMok (jc_152, 4, 0, 3, 3, 12, 1) jy_152 := ⟨by decide +kernel, by decide +kernel, rfl, jokc_152, rfl, fun h => absurd h (by decide)⟩
set_option maxRecDepth 100000 in
theorem jca_152 : jMcall (jc_152, 4, 0, 3, 3, 12, 1) jy_152 := ⟨⟨by decide +kernel, by decide +kernel⟩, jT 1473 rfl, jT 18 (by decide +kernel), by decide, by decide, ⟨by decide +kernel, jT 1472 (by decide +kernel), jTS (q := (⟨"CrowRotaModel", "numeral", "(II)I"⟩, 67)) (List.mem_of_getElem? (i := 52) (by decide +kernel)), 11, rfl, by decide +kernel, by decide⟩⟩
set_option maxRecDepth 100000 in
theorem jokc_153 : jokc jy_153.2.2.2.1 (Nat.beq jy_153.2.2.2.2.1 2) jy_153.2.1 jy_153.2.2.2.2.2 0 jc_153 = true := by decide +kernel
theorem jok_153 : jMok (jc_153, 5, 0, 4, 0, 0, 1) jy_153 := ⟨by decide +kernel, by decide +kernel, rfl, jokc_153, rfl, fun h => absurd h (by decide)⟩
set_option maxRecDepth 100000 in
theorem jca_153 : jMcall (jc_153, 5, 0, 4, 0, 0, 1) jy_153 := ⟨⟨by decide +kernel, by decide +kernel⟩, jT 1496 rfl, jT 18 (by decide +kernel), by decide, by decide, ⟨by decide +kernel, jT 1495 (by decide +kernel)⟩⟩
set_option maxRecDepth 100000 in
theorem jokc_154 : jokc jy_154.2.2.2.1 (Nat.beq jy_154.2.2.2.2.1 2) jy_154.2.1 jy_154.2.2.2.2.2 0 jc_154 = true := by decide +kernel
theorem jok_154 : jMok (jc_154, 5, 0, 4, 3, 12, 1) jy_154 := ⟨by decide +kernel, by decide +kernel, rfl, jokc_154, rfl, fun h => absurd h (by decide)⟩
set_option maxRecDepth 100000 in
theorem jca_154 : jMcall (jc_154, 5, 0, 4, 3, 12, 1) jy_154 := ⟨⟨by decide +kernel, by decide +kernel⟩, jT 1493 rfl, jT 18 (by decide +kernel), by decide, by decide, ⟨by decide +kernel, jT 1492 (by decide +kernel), jTS (q := (⟨"CrowRotaModel", "fresh", "([III)I"⟩, 67)) (List.mem_of_getElem? (i := 57) (by decide +kernel)), 11, rfl, by decide +kernel, by decide⟩⟩
set_option maxRecDepth 100000 in
theorem jokc_155 : jokc jy_155.2.2.2.1 (Nat.beq jy_155.2.2.2.2.1 2) jy_155.2.1 jy_155.2.2.2.2.2 0 jc_155 = true := by decide +kernel
theorem jok_155 : jMok (jc_155, 2, 0, 2, 0, 12, 1) jy_155 := ⟨by decide +kernel, by decide +kernel, rfl, jokc_155, rfl, fun h => absurd h (by decide)⟩
set_option maxRecDepth 100000 in
theorem jca_155 : jMcall (jc_155, 2, 0, 2, 0, 12, 1) jy_155 := ⟨⟨by decide +kernel, by decide +kernel⟩, jT 1466 rfl, jT 18 (by decide +kernel), by decide, by decide, ⟨by decide +kernel, jT 1465 (by decide +kernel), jTS (q := (⟨"CrowRotaModel", "fresher", "(I)I"⟩, 67)) (List.mem_of_getElem? (i := 51) (by decide +kernel)), 11, rfl, by decide +kernel, by decide⟩⟩
set_option maxRecDepth 100000 in
theorem jokc_156 : jokc jy_156.2.2.2.1 (Nat.beq jy_156.2.2.2.2.1 2) jy_156.2.1 jy_156.2.2.2.2.2 0 jc_156 = true := by decide +kernel
theorem jok_156 : jMok (jc_156, 3, 0, 3, 0, 12, 0) jy_156 := ⟨by decide +kernel, by decide +kernel, rfl, jokc_156, rfl, fun h => absurd h (by decide)⟩
set_option maxRecDepth 100000 in
theorem jca_156 : jMcall (jc_156, 3, 0, 3, 0, 12, 0) jy_156 := ⟨⟨by decide +kernel, by decide +kernel⟩, jT 1420 rfl, jT 18 (by decide +kernel), by decide, by decide, ⟨by decide +kernel, jT 1419 (by decide +kernel), jTS (q := (⟨"CrowRotaModel", "reads", "(II)V"⟩, 67)) (List.mem_of_getElem? (i := 42) (by decide +kernel)), 11, rfl, by decide +kernel, by decide⟩⟩
set_option maxRecDepth 100000 in
theorem jokc_157 : jokc jy_157.2.2.2.1 (Nat.beq jy_157.2.2.2.2.1 2) jy_157.2.1 jy_157.2.2.2.2.2 0 jc_157 = true := by decide +kernel
theorem jok_157 : jMok (jc_157, 2, 0, 1, 4, 12, 1) jy_157 := ⟨by decide +kernel, by decide +kernel, rfl, jokc_157, rfl, fun h => absurd h (by decide)⟩
set_option maxRecDepth 100000 in
theorem jca_157 : jMcall (jc_157, 2, 0, 1, 4, 12, 1) jy_157 := ⟨⟨by decide +kernel, by decide +kernel⟩, jT 1481 rfl, jT 18 (by decide +kernel), by decide, by decide, ⟨by decide +kernel, jT 1480 (by decide +kernel), jTS (q := (⟨"CrowRotaModel", "cellAtHand", "()I"⟩, 67)) (List.mem_of_getElem? (i := 54) (by decide +kernel)), 11, rfl, by decide +kernel, by decide⟩⟩
set_option maxRecDepth 100000 in
theorem jokc_158 : jokc jy_158.2.2.2.1 (Nat.beq jy_158.2.2.2.2.1 2) jy_158.2.1 jy_158.2.2.2.2.2 0 jc_158 = true := by decide +kernel
theorem jok_158 : jMok (jc_158, 2, 0, 2, 1, 12, 2) jy_158 := ⟨by decide +kernel, by decide +kernel, rfl, jokc_158, rfl, fun h => absurd h (by decide)⟩
set_option maxRecDepth 100000 in
theorem jca_158 : jMcall (jc_158, 2, 0, 2, 1, 12, 2) jy_158 := ⟨⟨by decide +kernel, by decide +kernel⟩, jT 1462 rfl, jT 18 (by decide +kernel), by decide, by decide, ⟨by decide +kernel, jT 1461 (by decide +kernel), jTS (q := (⟨"CrowRotaModel", "isFull", "(I)Z"⟩, 67)) (List.mem_of_getElem? (i := 50) (by decide +kernel)), 11, rfl, by decide +kernel, by decide⟩⟩
set_option maxRecDepth 100000 in
theorem jokc_159 : jokc jy_159.2.2.2.1 (Nat.beq jy_159.2.2.2.2.1 2) jy_159.2.1 jy_159.2.2.2.2.2 0 jc_159 = true := by decide +kernel
theorem jok_159 : jMok (jc_159, 1, 0, 1, 0, 0, 2) jy_159 := ⟨by decide +kernel, by decide +kernel, rfl, jokc_159, rfl, fun h => absurd h (by decide)⟩
set_option maxRecDepth 100000 in
theorem jca_159 : jMcall (jc_159, 1, 0, 1, 0, 0, 2) jy_159 := ⟨⟨by decide +kernel, by decide +kernel⟩, jT 1469 rfl, jT 18 (by decide +kernel), by decide, by decide, ⟨by decide +kernel, jT 1468 (by decide +kernel)⟩⟩
set_option maxRecDepth 100000 in
theorem jokx_160_0 : jokl jy_160.2.2.2.1 (Nat.beq jy_160.2.2.2.2.1 2) jy_160.2.1 jy_160.2.2.2.2.2 (16 * 0) jc_160_0 = true := by decide +kernel
set_option maxRecDepth 100000 in
theorem jokx_160_1 : jokl jy_160.2.2.2.1 (Nat.beq jy_160.2.2.2.2.1 2) jy_160.2.1 jy_160.2.2.2.2.2 (16 * 1) jc_160_1 = true := by decide +kernel
set_option maxRecDepth 100000 in
theorem jokx_160_2 : jokl jy_160.2.2.2.1 (Nat.beq jy_160.2.2.2.2.1 2) jy_160.2.1 jy_160.2.2.2.2.2 (16 * 2) jc_160_2 = true := by decide +kernel
set_option maxRecDepth 100000 in
theorem jokx_160_3 : jokl jy_160.2.2.2.1 (Nat.beq jy_160.2.2.2.2.1 2) jy_160.2.1 jy_160.2.2.2.2.2 (16 * 3) jc_160_3 = true := by decide +kernel
set_option maxRecDepth 100000 in
theorem jokx_160_4 : jokl jy_160.2.2.2.1 (Nat.beq jy_160.2.2.2.2.1 2) jy_160.2.1 jy_160.2.2.2.2.2 (16 * 4) jc_160_4 = true := by decide +kernel
set_option maxRecDepth 100000 in
theorem jokx_160_5 : jokl jy_160.2.2.2.1 (Nat.beq jy_160.2.2.2.2.1 2) jy_160.2.1 jy_160.2.2.2.2.2 (16 * 5) jc_160_5 = true := by decide +kernel
set_option maxRecDepth 100000 in
theorem jokx_160_6 : jokl jy_160.2.2.2.1 (Nat.beq jy_160.2.2.2.2.1 2) jy_160.2.1 jy_160.2.2.2.2.2 (16 * 6) jc_160_6 = true := by decide +kernel
set_option maxRecDepth 100000 in
theorem jokx_160_7 : jokl jy_160.2.2.2.1 (Nat.beq jy_160.2.2.2.2.1 2) jy_160.2.1 jy_160.2.2.2.2.2 (16 * 7) jc_160_7 = true := by decide +kernel
set_option maxRecDepth 100000 in
theorem jokx_160_8 : jokl jy_160.2.2.2.1 (Nat.beq jy_160.2.2.2.2.1 2) jy_160.2.1 jy_160.2.2.2.2.2 (16 * 8) jc_160_8 = true := by decide +kernel
set_option maxRecDepth 100000 in
theorem jokx_160_9 : jokl jy_160.2.2.2.1 (Nat.beq jy_160.2.2.2.2.1 2) jy_160.2.1 jy_160.2.2.2.2.2 (16 * 9) jc_160_9 = true := by decide +kernel
set_option maxRecDepth 100000 in
theorem jokx_160_10 : jokl jy_160.2.2.2.1 (Nat.beq jy_160.2.2.2.2.1 2) jy_160.2.1 jy_160.2.2.2.2.2 (16 * 10) jc_160_10 = true := by decide +kernel
set_option maxRecDepth 100000 in
theorem jokc_160 : jokc jy_160.2.2.2.1 (Nat.beq jy_160.2.2.2.2.1 2) jy_160.2.1 jy_160.2.2.2.2.2 0 jc_160 = true := by
  show (jokl jy_160.2.2.2.1 (Nat.beq jy_160.2.2.2.2.1 2) jy_160.2.1 jy_160.2.2.2.2.2 (16 * 0) jc_160_0 && (jokl jy_160.2.2.2.1 (Nat.beq jy_160.2.2.2.2.1 2) jy_160.2.1 jy_160.2.2.2.2.2 (16 * 1) jc_160_1 && (jokl jy_160.2.2.2.1 (Nat.beq jy_160.2.2.2.2.1 2) jy_160.2.1 jy_160.2.2.2.2.2 (16 * 2) jc_160_2 && (jokl jy_160.2.2.2.1 (Nat.beq jy_160.2.2.2.2.1 2) jy_160.2.1 jy_160.2.2.2.2.2 (16 * 3) jc_160_3 && (jokl jy_160.2.2.2.1 (Nat.beq jy_160.2.2.2.2.1 2) jy_160.2.1 jy_160.2.2.2.2.2 (16 * 4) jc_160_4 && (jokl jy_160.2.2.2.1 (Nat.beq jy_160.2.2.2.2.1 2) jy_160.2.1 jy_160.2.2.2.2.2 (16 * 5) jc_160_5 && (jokl jy_160.2.2.2.1 (Nat.beq jy_160.2.2.2.2.1 2) jy_160.2.1 jy_160.2.2.2.2.2 (16 * 6) jc_160_6 && (jokl jy_160.2.2.2.1 (Nat.beq jy_160.2.2.2.2.1 2) jy_160.2.1 jy_160.2.2.2.2.2 (16 * 7) jc_160_7 && (jokl jy_160.2.2.2.1 (Nat.beq jy_160.2.2.2.2.1 2) jy_160.2.1 jy_160.2.2.2.2.2 (16 * 8) jc_160_8 && (jokl jy_160.2.2.2.1 (Nat.beq jy_160.2.2.2.2.1 2) jy_160.2.1 jy_160.2.2.2.2.2 (16 * 9) jc_160_9 && (jokl jy_160.2.2.2.1 (Nat.beq jy_160.2.2.2.2.1 2) jy_160.2.1 jy_160.2.2.2.2.2 (16 * 10) jc_160_10 && true))))))))))) = true
  simp only [Bool.and_eq_true]
  exact ⟨jokx_160_0, jokx_160_1, jokx_160_2, jokx_160_3, jokx_160_4, jokx_160_5, jokx_160_6, jokx_160_7, jokx_160_8, jokx_160_9, jokx_160_10, trivial⟩
theorem jok_160 : jMok (jc_160, 2, 0, 1, 6, 12, 0) jy_160 := ⟨by decide +kernel, by decide +kernel, rfl, jokc_160, rfl, fun h => absurd h (by decide)⟩
set_option maxRecDepth 100000 in
theorem jca_160 : jMcall (jc_160, 2, 0, 1, 6, 12, 0) jy_160 := ⟨⟨by decide +kernel, by decide +kernel⟩, jT 1454 rfl, jT 18 (by decide +kernel), by decide, by decide, ⟨by decide +kernel, jT 1453 (by decide +kernel), jTS (q := (⟨"CrowRotaModel", "line", "()V"⟩, 67)) (List.mem_of_getElem? (i := 48) (by decide +kernel)), 11, rfl, by decide +kernel, by decide⟩⟩
set_option maxRecDepth 100000 in
theorem jokc_161 : jokc jy_161.2.2.2.1 (Nat.beq jy_161.2.2.2.2.1 2) jy_161.2.1 jy_161.2.2.2.2.2 0 jc_161 = true := by decide +kernel
theorem jok_161 : jMok (jc_161, 3, 0, 1, 5, 12, 0) jy_161 := ⟨by decide +kernel, by decide +kernel, rfl, jokc_161, rfl, fun h => absurd h (by decide)⟩
set_option maxRecDepth 100000 in
theorem jca_161 : jMcall (jc_161, 3, 0, 1, 5, 12, 0) jy_161 := ⟨⟨by decide +kernel, by decide +kernel⟩, jT 1477 rfl, jT 18 (by decide +kernel), by decide, by decide, ⟨by decide +kernel, jT 1476 (by decide +kernel), jTS (q := (⟨"CrowRotaModel", "cropLine", "()V"⟩, 67)) (List.mem_of_getElem? (i := 53) (by decide +kernel)), 11, rfl, by decide +kernel, by decide⟩⟩
set_option maxRecDepth 100000 in
theorem jokc_162 : jokc jy_162.2.2.2.1 (Nat.beq jy_162.2.2.2.2.1 2) jy_162.2.1 jy_162.2.2.2.2.2 0 jc_162 = true := by decide +kernel
theorem jok_162 : jMok (jc_162, 2, 0, 2, 5, 12, 0) jy_162 := ⟨by decide +kernel, by decide +kernel, rfl, jokc_162, rfl, fun h => absurd h (by decide)⟩
set_option maxRecDepth 100000 in
theorem jca_162 : jMcall (jc_162, 2, 0, 2, 5, 12, 0) jy_162 := ⟨⟨by decide +kernel, by decide +kernel⟩, jT 1489 rfl, jT 18 (by decide +kernel), by decide, by decide, ⟨by decide +kernel, jT 1488 (by decide +kernel), jTS (q := (⟨"CrowRotaModel", "scareLine", "(I)V"⟩, 67)) (List.mem_of_getElem? (i := 56) (by decide +kernel)), 11, rfl, by decide +kernel, by decide⟩⟩
set_option maxRecDepth 100000 in
theorem jokc_163 : jokc jy_163.2.2.2.1 (Nat.beq jy_163.2.2.2.2.1 2) jy_163.2.1 jy_163.2.2.2.2.2 0 jc_163 = true := by decide +kernel
theorem jok_163 : jMok (jc_163, 5, 0, 1, 4, 12, 0) jy_163 := ⟨by decide +kernel, by decide +kernel, rfl, jokc_163, rfl, fun h => absurd h (by decide)⟩
set_option maxRecDepth 100000 in
theorem jca_163 : jMcall (jc_163, 5, 0, 1, 4, 12, 0) jy_163 := ⟨⟨by decide +kernel, by decide +kernel⟩, jT 1500 rfl, jT 18 (by decide +kernel), by decide, by decide, ⟨by decide +kernel, jT 1499 (by decide +kernel), jTS (q := (⟨"CrowRotaModel", "flapLine", "()V"⟩, 67)) (List.mem_of_getElem? (i := 58) (by decide +kernel)), 11, rfl, by decide +kernel, by decide⟩⟩
set_option maxRecDepth 100000 in
theorem jokc_164 : jokc jy_164.2.2.2.1 (Nat.beq jy_164.2.2.2.2.1 2) jy_164.2.1 jy_164.2.2.2.2.2 0 jc_164 = true := by decide +kernel
theorem jok_164 : jMok (jc_164, 2, 0, 1, 5, 12, 0) jy_164 := ⟨by decide +kernel, by decide +kernel, rfl, jokc_164, rfl, fun h => absurd h (by decide)⟩
set_option maxRecDepth 100000 in
theorem jca_164 : jMcall (jc_164, 2, 0, 1, 5, 12, 0) jy_164 := ⟨⟨by decide +kernel, by decide +kernel⟩, jT 1504 rfl, jT 18 (by decide +kernel), by decide, by decide, ⟨by decide +kernel, jT 1503 (by decide +kernel), jTS (q := (⟨"CrowRotaModel", "lawLine", "()V"⟩, 67)) (List.mem_of_getElem? (i := 59) (by decide +kernel)), 11, rfl, by decide +kernel, by decide⟩⟩
set_option maxRecDepth 100000 in
theorem jokc_165 : jokc jy_165.2.2.2.1 (Nat.beq jy_165.2.2.2.2.1 2) jy_165.2.1 jy_165.2.2.2.2.2 0 jc_165 = true := by decide +kernel
theorem jok_165 : jMok (jc_165, 3, 0, 3, 1, 12, 0) jy_165 := ⟨by decide +kernel, by decide +kernel, rfl, jokc_165, rfl, fun h => absurd h (by decide)⟩
set_option maxRecDepth 100000 in
theorem jca_165 : jMcall (jc_165, 3, 0, 3, 1, 12, 0) jy_165 := ⟨⟨by decide +kernel, by decide +kernel⟩, jT 1528 rfl, jT 18 (by decide +kernel), by decide, by decide, ⟨by decide +kernel, jT 1527 (by decide +kernel), jTS (q := (⟨"CrowRotaModel", "puts", "(II)V"⟩, 67)) (List.mem_of_getElem? (i := 65) (by decide +kernel)), 11, rfl, by decide +kernel, by decide⟩⟩
set_option maxRecDepth 100000 in
theorem jokc_166 : jokc jy_166.2.2.2.1 (Nat.beq jy_166.2.2.2.2.1 2) jy_166.2.1 jy_166.2.2.2.2.2 0 jc_166 = true := by decide +kernel
theorem jok_166 : jMok (jc_166, 1, 0, 1, 1, 12, 0) jy_166 := ⟨by decide +kernel, by decide +kernel, rfl, jokc_166, rfl, fun h => absurd h (by decide)⟩
set_option maxRecDepth 100000 in
theorem jca_166 : jMcall (jc_166, 1, 0, 1, 1, 12, 0) jy_166 := ⟨⟨by decide +kernel, by decide +kernel⟩, jT 1524 rfl, jT 18 (by decide +kernel), by decide, by decide, ⟨by decide +kernel, jT 1523 (by decide +kernel), jTS (q := (⟨"CrowRotaModel", "knot", "()V"⟩, 67)) (List.mem_of_getElem? (i := 64) (by decide +kernel)), 11, rfl, by decide +kernel, by decide⟩⟩
set_option maxRecDepth 100000 in
theorem jokc_167 : jokc jy_167.2.2.2.1 (Nat.beq jy_167.2.2.2.2.1 2) jy_167.2.1 jy_167.2.2.2.2.2 0 jc_167 = true := by decide +kernel
theorem jok_167 : jMok (jc_167, 1, 0, 1, 4, 12, 0) jy_167 := ⟨by decide +kernel, by decide +kernel, rfl, jokc_167, rfl, fun h => absurd h (by decide)⟩
set_option maxRecDepth 100000 in
theorem jca_167 : jMcall (jc_167, 1, 0, 1, 4, 12, 0) jy_167 := ⟨⟨by decide +kernel, by decide +kernel⟩, jT 1508 rfl, jT 18 (by decide +kernel), by decide, by decide, ⟨by decide +kernel, jT 1507 (by decide +kernel), jTS (q := (⟨"CrowRotaModel", "expression", "()V"⟩, 67)) (List.mem_of_getElem? (i := 60) (by decide +kernel)), 11, rfl, by decide +kernel, by decide⟩⟩
set_option maxRecDepth 100000 in
theorem jokc_168 : jokc jy_168.2.2.2.1 (Nat.beq jy_168.2.2.2.2.1 2) jy_168.2.1 jy_168.2.2.2.2.2 0 jc_168 = true := by decide +kernel
theorem jok_168 : jMok (jc_168, 1, 0, 1, 4, 12, 0) jy_168 := ⟨by decide +kernel, by decide +kernel, rfl, jokc_168, rfl, fun h => absurd h (by decide)⟩
set_option maxRecDepth 100000 in
theorem jca_168 : jMcall (jc_168, 1, 0, 1, 4, 12, 0) jy_168 := ⟨⟨by decide +kernel, by decide +kernel⟩, jT 1512 rfl, jT 18 (by decide +kernel), by decide, by decide, ⟨by decide +kernel, jT 1511 (by decide +kernel), jTS (q := (⟨"CrowRotaModel", "conjunction", "()V"⟩, 67)) (List.mem_of_getElem? (i := 61) (by decide +kernel)), 11, rfl, by decide +kernel, by decide⟩⟩
set_option maxRecDepth 100000 in
theorem jokc_169 : jokc jy_169.2.2.2.1 (Nat.beq jy_169.2.2.2.2.1 2) jy_169.2.1 jy_169.2.2.2.2.2 0 jc_169 = true := by decide +kernel
theorem jok_169 : jMok (jc_169, 2, 0, 1, 4, 12, 0) jy_169 := ⟨by decide +kernel, by decide +kernel, rfl, jokc_169, rfl, fun h => absurd h (by decide)⟩
set_option maxRecDepth 100000 in
theorem jca_169 : jMcall (jc_169, 2, 0, 1, 4, 12, 0) jy_169 := ⟨⟨by decide +kernel, by decide +kernel⟩, jT 1516 rfl, jT 18 (by decide +kernel), by decide, by decide, ⟨by decide +kernel, jT 1515 (by decide +kernel), jTS (q := (⟨"CrowRotaModel", "negation", "()V"⟩, 67)) (List.mem_of_getElem? (i := 62) (by decide +kernel)), 11, rfl, by decide +kernel, by decide⟩⟩
set_option maxRecDepth 100000 in
theorem jokc_170 : jokc jy_170.2.2.2.1 (Nat.beq jy_170.2.2.2.2.1 2) jy_170.2.1 jy_170.2.2.2.2.2 0 jc_170 = true := by decide +kernel
theorem jok_170 : jMok (jc_170, 2, 0, 1, 4, 12, 0) jy_170 := ⟨by decide +kernel, by decide +kernel, rfl, jokc_170, rfl, fun h => absurd h (by decide)⟩
set_option maxRecDepth 100000 in
theorem jca_170 : jMcall (jc_170, 2, 0, 1, 4, 12, 0) jy_170 := ⟨⟨by decide +kernel, by decide +kernel⟩, jT 1532 rfl, jT 18 (by decide +kernel), by decide, by decide, ⟨by decide +kernel, jT 1531 (by decide +kernel), jTS (q := (⟨"CrowRotaModel", "sum", "()V"⟩, 67)) (List.mem_of_getElem? (i := 66) (by decide +kernel)), 11, rfl, by decide +kernel, by decide⟩⟩
set_option maxRecDepth 100000 in
theorem jokc_171 : jokc jy_171.2.2.2.1 (Nat.beq jy_171.2.2.2.2.1 2) jy_171.2.1 jy_171.2.2.2.2.2 0 jc_171 = true := by decide +kernel
theorem jok_171 : jMok (jc_171, 2, 0, 1, 4, 12, 0) jy_171 := ⟨by decide +kernel, by decide +kernel, rfl, jokc_171, rfl, fun h => absurd h (by decide)⟩
set_option maxRecDepth 100000 in
theorem jca_171 : jMcall (jc_171, 2, 0, 1, 4, 12, 0) jy_171 := ⟨⟨by decide +kernel, by decide +kernel⟩, jT 1536 rfl, jT 18 (by decide +kernel), by decide, by decide, ⟨by decide +kernel, jT 1535 (by decide +kernel), jTS (q := (⟨"CrowRotaModel", "product", "()V"⟩, 67)) (List.mem_of_getElem? (i := 67) (by decide +kernel)), 11, rfl, by decide +kernel, by decide⟩⟩
set_option maxRecDepth 100000 in
theorem jokc_172 : jokc jy_172.2.2.2.1 (Nat.beq jy_172.2.2.2.2.1 2) jy_172.2.1 jy_172.2.2.2.2.2 0 jc_172 = true := by decide +kernel
theorem jok_172 : jMok (jc_172, 2, 0, 1, 4, 12, 0) jy_172 := ⟨by decide +kernel, by decide +kernel, rfl, jokc_172, rfl, fun h => absurd h (by decide)⟩
set_option maxRecDepth 100000 in
theorem jca_172 : jMcall (jc_172, 2, 0, 1, 4, 12, 0) jy_172 := ⟨⟨by decide +kernel, by decide +kernel⟩, jT 1540 rfl, jT 18 (by decide +kernel), by decide, by decide, ⟨by decide +kernel, jT 1539 (by decide +kernel), jTS (q := (⟨"CrowRotaModel", "primary", "()V"⟩, 67)) (List.mem_of_getElem? (i := 68) (by decide +kernel)), 11, rfl, by decide +kernel, by decide⟩⟩
set_option maxRecDepth 100000 in
theorem jokc_173 : jokc jy_173.2.2.2.1 (Nat.beq jy_173.2.2.2.2.1 2) jy_173.2.1 jy_173.2.2.2.2.2 0 jc_173 = true := by decide +kernel
theorem jok_173 : jMok (jc_173, 3, 0, 1, 0, 0, 0) jy_173 := ⟨by decide +kernel, by decide +kernel, rfl, jokc_173, rfl, fun h => absurd h (by decide)⟩
set_option maxRecDepth 100000 in
theorem jca_173 : jMcall (jc_173, 3, 0, 1, 0, 0, 0) jy_173 := ⟨⟨by decide +kernel, by decide +kernel⟩, jT 1547 rfl, jT 18 (by decide +kernel), by decide, by decide, ⟨by decide +kernel, jT 1546 (by decide +kernel)⟩⟩
set_option maxRecDepth 100000 in
theorem jokx_174_0 : jokl jy_174.2.2.2.1 (Nat.beq jy_174.2.2.2.2.1 2) jy_174.2.1 jy_174.2.2.2.2.2 (16 * 0) jc_174_0 = true := by decide +kernel
set_option maxRecDepth 100000 in
theorem jokx_174_1 : jokl jy_174.2.2.2.1 (Nat.beq jy_174.2.2.2.2.1 2) jy_174.2.1 jy_174.2.2.2.2.2 (16 * 1) jc_174_1 = true := by decide +kernel
set_option maxRecDepth 100000 in
theorem jokx_174_2 : jokl jy_174.2.2.2.1 (Nat.beq jy_174.2.2.2.2.1 2) jy_174.2.1 jy_174.2.2.2.2.2 (16 * 2) jc_174_2 = true := by decide +kernel
set_option maxRecDepth 100000 in
theorem jokx_174_3 : jokl jy_174.2.2.2.1 (Nat.beq jy_174.2.2.2.2.1 2) jy_174.2.1 jy_174.2.2.2.2.2 (16 * 3) jc_174_3 = true := by decide +kernel
set_option maxRecDepth 100000 in
theorem jokx_174_4 : jokl jy_174.2.2.2.1 (Nat.beq jy_174.2.2.2.2.1 2) jy_174.2.1 jy_174.2.2.2.2.2 (16 * 4) jc_174_4 = true := by decide +kernel
set_option maxRecDepth 100000 in
theorem jokx_174_5 : jokl jy_174.2.2.2.1 (Nat.beq jy_174.2.2.2.2.1 2) jy_174.2.1 jy_174.2.2.2.2.2 (16 * 5) jc_174_5 = true := by decide +kernel
set_option maxRecDepth 100000 in
theorem jokx_174_6 : jokl jy_174.2.2.2.1 (Nat.beq jy_174.2.2.2.2.1 2) jy_174.2.1 jy_174.2.2.2.2.2 (16 * 6) jc_174_6 = true := by decide +kernel
set_option maxRecDepth 100000 in
theorem jokx_174_7 : jokl jy_174.2.2.2.1 (Nat.beq jy_174.2.2.2.2.1 2) jy_174.2.1 jy_174.2.2.2.2.2 (16 * 7) jc_174_7 = true := by decide +kernel
set_option maxRecDepth 100000 in
theorem jokx_174_8 : jokl jy_174.2.2.2.1 (Nat.beq jy_174.2.2.2.2.1 2) jy_174.2.1 jy_174.2.2.2.2.2 (16 * 8) jc_174_8 = true := by decide +kernel
set_option maxRecDepth 100000 in
theorem jokx_174_9 : jokl jy_174.2.2.2.1 (Nat.beq jy_174.2.2.2.2.1 2) jy_174.2.1 jy_174.2.2.2.2.2 (16 * 9) jc_174_9 = true := by decide +kernel
set_option maxRecDepth 100000 in
theorem jokx_174_10 : jokl jy_174.2.2.2.1 (Nat.beq jy_174.2.2.2.2.1 2) jy_174.2.1 jy_174.2.2.2.2.2 (16 * 10) jc_174_10 = true := by decide +kernel
set_option maxRecDepth 100000 in
theorem jokx_174_11 : jokl jy_174.2.2.2.1 (Nat.beq jy_174.2.2.2.2.1 2) jy_174.2.1 jy_174.2.2.2.2.2 (16 * 11) jc_174_11 = true := by decide +kernel
set_option maxRecDepth 100000 in
theorem jokc_174 : jokc jy_174.2.2.2.1 (Nat.beq jy_174.2.2.2.2.1 2) jy_174.2.1 jy_174.2.2.2.2.2 0 jc_174 = true := by
  show (jokl jy_174.2.2.2.1 (Nat.beq jy_174.2.2.2.2.1 2) jy_174.2.1 jy_174.2.2.2.2.2 (16 * 0) jc_174_0 && (jokl jy_174.2.2.2.1 (Nat.beq jy_174.2.2.2.2.1 2) jy_174.2.1 jy_174.2.2.2.2.2 (16 * 1) jc_174_1 && (jokl jy_174.2.2.2.1 (Nat.beq jy_174.2.2.2.2.1 2) jy_174.2.1 jy_174.2.2.2.2.2 (16 * 2) jc_174_2 && (jokl jy_174.2.2.2.1 (Nat.beq jy_174.2.2.2.2.1 2) jy_174.2.1 jy_174.2.2.2.2.2 (16 * 3) jc_174_3 && (jokl jy_174.2.2.2.1 (Nat.beq jy_174.2.2.2.2.1 2) jy_174.2.1 jy_174.2.2.2.2.2 (16 * 4) jc_174_4 && (jokl jy_174.2.2.2.1 (Nat.beq jy_174.2.2.2.2.1 2) jy_174.2.1 jy_174.2.2.2.2.2 (16 * 5) jc_174_5 && (jokl jy_174.2.2.2.1 (Nat.beq jy_174.2.2.2.2.1 2) jy_174.2.1 jy_174.2.2.2.2.2 (16 * 6) jc_174_6 && (jokl jy_174.2.2.2.1 (Nat.beq jy_174.2.2.2.2.1 2) jy_174.2.1 jy_174.2.2.2.2.2 (16 * 7) jc_174_7 && (jokl jy_174.2.2.2.1 (Nat.beq jy_174.2.2.2.2.1 2) jy_174.2.1 jy_174.2.2.2.2.2 (16 * 8) jc_174_8 && (jokl jy_174.2.2.2.1 (Nat.beq jy_174.2.2.2.2.1 2) jy_174.2.1 jy_174.2.2.2.2.2 (16 * 9) jc_174_9 && (jokl jy_174.2.2.2.1 (Nat.beq jy_174.2.2.2.2.1 2) jy_174.2.1 jy_174.2.2.2.2.2 (16 * 10) jc_174_10 && (jokl jy_174.2.2.2.1 (Nat.beq jy_174.2.2.2.2.1 2) jy_174.2.1 jy_174.2.2.2.2.2 (16 * 11) jc_174_11 && true)))))))))))) = true
  simp only [Bool.and_eq_true]
  exact ⟨jokx_174_0, jokx_174_1, jokx_174_2, jokx_174_3, jokx_174_4, jokx_174_5, jokx_174_6, jokx_174_7, jokx_174_8, jokx_174_9, jokx_174_10, jokx_174_11, trivial⟩
theorem jok_174 : jMok (jc_174, 3, 0, 2, 7, 12, 1) jy_174 := ⟨by decide +kernel, by decide +kernel, rfl, jokc_174, rfl, fun h => absurd h (by decide)⟩
set_option maxRecDepth 100000 in
theorem jca_174 : jMcall (jc_174, 3, 0, 2, 7, 12, 1) jy_174 := ⟨⟨by decide +kernel, by decide +kernel⟩, jT 1416 rfl, jT 18 (by decide +kernel), by decide, by decide, ⟨by decide +kernel, jT 1414 (by decide +kernel), jT 1415 (by decide +kernel), 11, rfl, by decide +kernel, by decide⟩⟩
set_option maxRecDepth 100000 in
theorem jokc_175 : jokc jy_175.2.2.2.1 (Nat.beq jy_175.2.2.2.2.1 2) jy_175.2.1 jy_175.2.2.2.2.2 0 jc_175 = true := by decide +kernel
theorem jok_175 : jMok (jc_175, 2, 0, 2, 0, 12, 1) jy_175 := ⟨by decide +kernel, by decide +kernel, rfl, jokc_175, rfl, fun h => absurd h (by decide)⟩
set_option maxRecDepth 100000 in
theorem jca_175 : jMcall (jc_175, 2, 0, 2, 0, 12, 1) jy_175 := ⟨⟨by decide +kernel, by decide +kernel⟩, jT 1551 rfl, jT 18 (by decide +kernel), by decide, by decide, ⟨by decide +kernel, jT 1549 (by decide +kernel), jT 1550 (by decide +kernel), 11, rfl, by decide +kernel, by decide⟩⟩
set_option maxRecDepth 100000 in
theorem jokc_176 : jokc jy_176.2.2.2.1 (Nat.beq jy_176.2.2.2.2.1 2) jy_176.2.1 jy_176.2.2.2.2.2 0 jc_176 = true := by decide +kernel
theorem jok_176 : jMok (jc_176, 2, 0, 2, 1, 12, 1) jy_176 := ⟨by decide +kernel, by decide +kernel, rfl, jokc_176, rfl, fun h => absurd h (by decide)⟩
set_option maxRecDepth 100000 in
theorem jca_176 : jMcall (jc_176, 2, 0, 2, 1, 12, 1) jy_176 := ⟨⟨by decide +kernel, by decide +kernel⟩, jT 1555 rfl, jT 18 (by decide +kernel), by decide, by decide, ⟨by decide +kernel, jT 1553 (by decide +kernel), jT 1554 (by decide +kernel), 11, rfl, by decide +kernel, by decide⟩⟩
set_option maxRecDepth 100000 in
theorem jokc_177 : jokc jy_177.2.2.2.1 (Nat.beq jy_177.2.2.2.2.1 2) jy_177.2.1 jy_177.2.2.2.2.2 0 jc_177 = true := by decide +kernel
theorem jok_177 : jMok (jc_177, 1, 0, 1, 0, 0, 3) jy_177 := ⟨by decide +kernel, by decide +kernel, rfl, jokc_177, rfl, fun h => absurd h (by decide)⟩
set_option maxRecDepth 100000 in
theorem jca_177 : jMcall (jc_177, 1, 0, 1, 0, 0, 3) jy_177 := ⟨⟨by decide +kernel, by decide +kernel⟩, jT 1610 rfl, jT 18 (by decide +kernel), by decide, by decide, ⟨by decide +kernel, jT 1609 (by decide +kernel)⟩⟩
set_option maxRecDepth 100000 in
theorem jokx_178_0 : jokl jy_178.2.2.2.1 (Nat.beq jy_178.2.2.2.2.1 2) jy_178.2.1 jy_178.2.2.2.2.2 (16 * 0) jc_178_0 = true := by decide +kernel
set_option maxRecDepth 100000 in
theorem jokx_178_1 : jokl jy_178.2.2.2.1 (Nat.beq jy_178.2.2.2.2.1 2) jy_178.2.1 jy_178.2.2.2.2.2 (16 * 1) jc_178_1 = true := by decide +kernel
set_option maxRecDepth 100000 in
theorem jokx_178_2 : jokl jy_178.2.2.2.1 (Nat.beq jy_178.2.2.2.2.1 2) jy_178.2.1 jy_178.2.2.2.2.2 (16 * 2) jc_178_2 = true := by decide +kernel
set_option maxRecDepth 100000 in
theorem jokx_178_3 : jokl jy_178.2.2.2.1 (Nat.beq jy_178.2.2.2.2.1 2) jy_178.2.1 jy_178.2.2.2.2.2 (16 * 3) jc_178_3 = true := by decide +kernel
set_option maxRecDepth 100000 in
theorem jokx_178_4 : jokl jy_178.2.2.2.1 (Nat.beq jy_178.2.2.2.2.1 2) jy_178.2.1 jy_178.2.2.2.2.2 (16 * 4) jc_178_4 = true := by decide +kernel
set_option maxRecDepth 100000 in
theorem jokx_178_5 : jokl jy_178.2.2.2.1 (Nat.beq jy_178.2.2.2.2.1 2) jy_178.2.1 jy_178.2.2.2.2.2 (16 * 5) jc_178_5 = true := by decide +kernel
set_option maxRecDepth 100000 in
theorem jokx_178_6 : jokl jy_178.2.2.2.1 (Nat.beq jy_178.2.2.2.2.1 2) jy_178.2.1 jy_178.2.2.2.2.2 (16 * 6) jc_178_6 = true := by decide +kernel
set_option maxRecDepth 100000 in
theorem jokx_178_7 : jokl jy_178.2.2.2.1 (Nat.beq jy_178.2.2.2.2.1 2) jy_178.2.1 jy_178.2.2.2.2.2 (16 * 7) jc_178_7 = true := by decide +kernel
set_option maxRecDepth 100000 in
theorem jokx_178_8 : jokl jy_178.2.2.2.1 (Nat.beq jy_178.2.2.2.2.1 2) jy_178.2.1 jy_178.2.2.2.2.2 (16 * 8) jc_178_8 = true := by decide +kernel
set_option maxRecDepth 100000 in
theorem jokx_178_9 : jokl jy_178.2.2.2.1 (Nat.beq jy_178.2.2.2.2.1 2) jy_178.2.1 jy_178.2.2.2.2.2 (16 * 9) jc_178_9 = true := by decide +kernel
set_option maxRecDepth 100000 in
theorem jokx_178_10 : jokl jy_178.2.2.2.1 (Nat.beq jy_178.2.2.2.2.1 2) jy_178.2.1 jy_178.2.2.2.2.2 (16 * 10) jc_178_10 = true := by decide +kernel
set_option maxRecDepth 100000 in
theorem jokx_178_11 : jokl jy_178.2.2.2.1 (Nat.beq jy_178.2.2.2.2.1 2) jy_178.2.1 jy_178.2.2.2.2.2 (16 * 11) jc_178_11 = true := by decide +kernel
set_option maxRecDepth 100000 in
theorem jokc_178 : jokc jy_178.2.2.2.1 (Nat.beq jy_178.2.2.2.2.1 2) jy_178.2.1 jy_178.2.2.2.2.2 0 jc_178 = true := by
  show (jokl jy_178.2.2.2.1 (Nat.beq jy_178.2.2.2.2.1 2) jy_178.2.1 jy_178.2.2.2.2.2 (16 * 0) jc_178_0 && (jokl jy_178.2.2.2.1 (Nat.beq jy_178.2.2.2.2.1 2) jy_178.2.1 jy_178.2.2.2.2.2 (16 * 1) jc_178_1 && (jokl jy_178.2.2.2.1 (Nat.beq jy_178.2.2.2.2.1 2) jy_178.2.1 jy_178.2.2.2.2.2 (16 * 2) jc_178_2 && (jokl jy_178.2.2.2.1 (Nat.beq jy_178.2.2.2.2.1 2) jy_178.2.1 jy_178.2.2.2.2.2 (16 * 3) jc_178_3 && (jokl jy_178.2.2.2.1 (Nat.beq jy_178.2.2.2.2.1 2) jy_178.2.1 jy_178.2.2.2.2.2 (16 * 4) jc_178_4 && (jokl jy_178.2.2.2.1 (Nat.beq jy_178.2.2.2.2.1 2) jy_178.2.1 jy_178.2.2.2.2.2 (16 * 5) jc_178_5 && (jokl jy_178.2.2.2.1 (Nat.beq jy_178.2.2.2.2.1 2) jy_178.2.1 jy_178.2.2.2.2.2 (16 * 6) jc_178_6 && (jokl jy_178.2.2.2.1 (Nat.beq jy_178.2.2.2.2.1 2) jy_178.2.1 jy_178.2.2.2.2.2 (16 * 7) jc_178_7 && (jokl jy_178.2.2.2.1 (Nat.beq jy_178.2.2.2.2.1 2) jy_178.2.1 jy_178.2.2.2.2.2 (16 * 8) jc_178_8 && (jokl jy_178.2.2.2.1 (Nat.beq jy_178.2.2.2.2.1 2) jy_178.2.1 jy_178.2.2.2.2.2 (16 * 9) jc_178_9 && (jokl jy_178.2.2.2.1 (Nat.beq jy_178.2.2.2.2.1 2) jy_178.2.1 jy_178.2.2.2.2.2 (16 * 10) jc_178_10 && (jokl jy_178.2.2.2.1 (Nat.beq jy_178.2.2.2.2.1 2) jy_178.2.1 jy_178.2.2.2.2.2 (16 * 11) jc_178_11 && true)))))))))))) = true
  simp only [Bool.and_eq_true]
  exact ⟨jokx_178_0, jokx_178_1, jokx_178_2, jokx_178_3, jokx_178_4, jokx_178_5, jokx_178_6, jokx_178_7, jokx_178_8, jokx_178_9, jokx_178_10, jokx_178_11, trivial⟩
theorem jok_178 : jMok (jc_178, 8, 8, 2, 1, 12, 2) jy_178 := ⟨by decide +kernel, by decide +kernel, rfl, jokc_178, rfl, fun h => absurd h (by decide)⟩
set_option maxRecDepth 100000 in
theorem jca_178 : jMcall (jc_178, 8, 8, 2, 1, 12, 2) jy_178 := ⟨⟨by decide +kernel, by decide +kernel⟩, jT 1607 rfl, jT 18 (by decide +kernel), by decide, by decide, ⟨by decide +kernel, jT 1606 (by decide +kernel), jTS (q := (⟨"CrowRotaModel", "works", "(I)Z"⟩, 67)) (List.mem_of_getElem? (i := 81) (by decide +kernel)), 11, rfl, by decide +kernel, by decide⟩⟩
set_option maxRecDepth 100000 in
theorem jokc_179 : jokc jy_179.2.2.2.1 (Nat.beq jy_179.2.2.2.2.1 2) jy_179.2.1 jy_179.2.2.2.2.2 0 jc_179 = true := by decide +kernel
theorem jok_179 : jMok (jc_179, 3, 0, 2, 2, 12, 2) jy_179 := ⟨by decide +kernel, by decide +kernel, rfl, jokc_179, rfl, fun h => absurd h (by decide)⟩
set_option maxRecDepth 100000 in
theorem jca_179 : jMcall (jc_179, 3, 0, 2, 2, 12, 2) jy_179 := ⟨⟨by decide +kernel, by decide +kernel⟩, jT 1603 rfl, jT 18 (by decide +kernel), by decide, by decide, ⟨by decide +kernel, jT 1602 (by decide +kernel), jTS (q := (⟨"CrowRotaModel", "goes", "(I)Z"⟩, 67)) (List.mem_of_getElem? (i := 80) (by decide +kernel)), 11, rfl, by decide +kernel, by decide⟩⟩
set_option maxRecDepth 100000 in
theorem jokc_180 : jokc jy_180.2.2.2.1 (Nat.beq jy_180.2.2.2.2.1 2) jy_180.2.1 jy_180.2.2.2.2.2 0 jc_180 = true := by decide +kernel
theorem jok_180 : jMok (jc_180, 2, 0, 2, 0, 12, 2) jy_180 := ⟨by decide +kernel, by decide +kernel, rfl, jokc_180, rfl, fun h => absurd h (by decide)⟩
set_option maxRecDepth 100000 in
theorem jca_180 : jMcall (jc_180, 2, 0, 2, 0, 12, 2) jy_180 := ⟨⟨by decide +kernel, by decide +kernel⟩, jT 1599 rfl, jT 18 (by decide +kernel), by decide, by decide, ⟨by decide +kernel, jT 1598 (by decide +kernel), jTS (q := (⟨"CrowRotaModel", "hasLaw", "(I)Z"⟩, 67)) (List.mem_of_getElem? (i := 79) (by decide +kernel)), 11, rfl, by decide +kernel, by decide⟩⟩
set_option maxRecDepth 100000 in
theorem jokc_181 : jokc jy_181.2.2.2.1 (Nat.beq jy_181.2.2.2.2.1 2) jy_181.2.1 jy_181.2.2.2.2.2 0 jc_181 = true := by decide +kernel
theorem jok_181 : jMok (jc_181, 1, 0, 1, 0, 12, 1) jy_181 := ⟨by decide +kernel, by decide +kernel, rfl, jokc_181, rfl, fun h => absurd h (by decide)⟩
set_option maxRecDepth 100000 in
theorem jca_181 : jMcall (jc_181, 1, 0, 1, 0, 12, 1) jy_181 := ⟨⟨by decide +kernel, by decide +kernel⟩, jT 1201 rfl, jT 18 (by decide +kernel), by decide, by decide, ⟨by decide +kernel, jT 1200 (by decide +kernel), jTS (q := (⟨"CrowRotaModel", "cells", "()I"⟩, 67)) (List.mem_of_getElem? (i := 41) (by decide +kernel)), 11, rfl, by decide +kernel, by decide⟩⟩
set_option maxRecDepth 100000 in
theorem jokc_182 : jokc jy_182.2.2.2.1 (Nat.beq jy_182.2.2.2.2.1 2) jy_182.2.1 jy_182.2.2.2.2.2 0 jc_182 = true := by decide +kernel
theorem jok_182 : jMok (jc_182, 3, 0, 2, 1, 12, 0) jy_182 := ⟨by decide +kernel, by decide +kernel, rfl, jokc_182, rfl, fun h => absurd h (by decide)⟩
set_option maxRecDepth 100000 in
theorem jca_182 : jMcall (jc_182, 3, 0, 2, 1, 12, 0) jy_182 := ⟨⟨by decide +kernel, by decide +kernel⟩, jT 1197 rfl, jT 18 (by decide +kernel), by decide, by decide, ⟨by decide +kernel, jT 1196 (by decide +kernel), jTS (q := (⟨"CrowRotaModel", "starts", "(I)V"⟩, 67)) (List.mem_of_getElem? (i := 40) (by decide +kernel)), 11, rfl, by decide +kernel, by decide⟩⟩
set_option maxRecDepth 100000 in
theorem jokc_183 : jokc jy_183.2.2.2.1 (Nat.beq jy_183.2.2.2.2.1 2) jy_183.2.1 jy_183.2.2.2.2.2 0 jc_183 = true := by decide +kernel
theorem jok_183 : jMok (jc_183, 1, 0, 1, 2, 12, 0) jy_183 := ⟨by decide +kernel, by decide +kernel, rfl, jokc_183, rfl, fun h => absurd h (by decide)⟩
set_option maxRecDepth 100000 in
theorem jca_183 : jMcall (jc_183, 1, 0, 1, 2, 12, 0) jy_183 := ⟨⟨by decide +kernel, by decide +kernel⟩, jT 1193 rfl, jT 18 (by decide +kernel), by decide, by decide, ⟨by decide +kernel, jT 1192 (by decide +kernel), jTS (q := (⟨"CrowRotaModel", "begins", "()V"⟩, 67)) (List.mem_of_getElem? (i := 39) (by decide +kernel)), 11, rfl, by decide +kernel, by decide⟩⟩
set_option maxRecDepth 100000 in
theorem jokc_184 : jokc jy_184.2.2.2.1 (Nat.beq jy_184.2.2.2.2.1 2) jy_184.2.1 jy_184.2.2.2.2.2 0 jc_184 = true := by decide +kernel
theorem jok_184 : jMok (jc_184, 4, 0, 3, 0, 12, 0) jy_184 := ⟨by decide +kernel, by decide +kernel, rfl, jokc_184, rfl, fun h => absurd h (by decide)⟩
set_option maxRecDepth 100000 in
theorem jca_184 : jMcall (jc_184, 4, 0, 3, 0, 12, 0) jy_184 := ⟨⟨by decide +kernel, by decide +kernel⟩, jT 1662 rfl, jT 18 (by decide +kernel), by decide, by decide, ⟨by decide +kernel, jT 1661 (by decide +kernel), jTS (q := (⟨"CrowRotaModel", "copies", "(II)V"⟩, 67)) (List.mem_of_getElem? (i := 87) (by decide +kernel)), 11, rfl, by decide +kernel, by decide⟩⟩
set_option maxRecDepth 100000 in
theorem jokc_185 : jokc jy_185.2.2.2.1 (Nat.beq jy_185.2.2.2.2.1 2) jy_185.2.1 jy_185.2.2.2.2.2 0 jc_185 = true := by decide +kernel
theorem jok_185 : jMok (jc_185, 2, 0, 2, 0, 12, 2) jy_185 := ⟨by decide +kernel, by decide +kernel, rfl, jokc_185, rfl, fun h => absurd h (by decide)⟩
set_option maxRecDepth 100000 in
theorem jca_185 : jMcall (jc_185, 2, 0, 2, 0, 12, 2) jy_185 := ⟨⟨by decide +kernel, by decide +kernel⟩, jT 1637 rfl, jT 18 (by decide +kernel), by decide, by decide, ⟨by decide +kernel, jT 1636 (by decide +kernel), jTS (q := (⟨"CrowRotaModel", "isScare", "(I)Z"⟩, 67)) (List.mem_of_getElem? (i := 85) (by decide +kernel)), 11, rfl, by decide +kernel, by decide⟩⟩
set_option maxRecDepth 100000 in
theorem jokc_186 : jokc jy_186.2.2.2.1 (Nat.beq jy_186.2.2.2.2.1 2) jy_186.2.1 jy_186.2.2.2.2.2 0 jc_186 = true := by decide +kernel
theorem jok_186 : jMok (jc_186, 2, 0, 2, 1, 12, 2) jy_186 := ⟨by decide +kernel, by decide +kernel, rfl, jokc_186, rfl, fun h => absurd h (by decide)⟩
set_option maxRecDepth 100000 in
theorem jca_186 : jMcall (jc_186, 2, 0, 2, 1, 12, 2) jy_186 := ⟨⟨by decide +kernel, by decide +kernel⟩, jT 1563 rfl, jT 18 (by decide +kernel), by decide, by decide, ⟨by decide +kernel, jT 1562 (by decide +kernel), jTS (q := (⟨"CrowRotaModel", "isCell", "(I)Z"⟩, 67)) (List.mem_of_getElem? (i := 70) (by decide +kernel)), 11, rfl, by decide +kernel, by decide⟩⟩
set_option maxRecDepth 100000 in
theorem jokc_187 : jokc jy_187.2.2.2.1 (Nat.beq jy_187.2.2.2.2.1 2) jy_187.2.1 jy_187.2.2.2.2.2 0 jc_187 = true := by decide +kernel
theorem jok_187 : jMok (jc_187, 2, 0, 2, 0, 12, 1) jy_187 := ⟨by decide +kernel, by decide +kernel, rfl, jokc_187, rfl, fun h => absurd h (by decide)⟩
set_option maxRecDepth 100000 in
theorem jca_187 : jMcall (jc_187, 2, 0, 2, 0, 12, 1) jy_187 := ⟨⟨by decide +kernel, by decide +kernel⟩, jT 1583 rfl, jT 18 (by decide +kernel), by decide, by decide, ⟨by decide +kernel, jT 1582 (by decide +kernel), jTS (q := (⟨"CrowRotaModel", "windOf", "(I)I"⟩, 67)) (List.mem_of_getElem? (i := 75) (by decide +kernel)), 11, rfl, by decide +kernel, by decide⟩⟩
set_option maxRecDepth 100000 in
theorem jokc_188 : jokc jy_188.2.2.2.1 (Nat.beq jy_188.2.2.2.2.1 2) jy_188.2.1 jy_188.2.2.2.2.2 0 jc_188 = true := by decide +kernel
theorem jok_188 : jMok (jc_188, 2, 0, 2, 0, 12, 1) jy_188 := ⟨by decide +kernel, by decide +kernel, rfl, jokc_188, rfl, fun h => absurd h (by decide)⟩
set_option maxRecDepth 100000 in
theorem jca_188 : jMcall (jc_188, 2, 0, 2, 0, 12, 1) jy_188 := ⟨⟨by decide +kernel, by decide +kernel⟩, jT 1591 rfl, jT 18 (by decide +kernel), by decide, by decide, ⟨by decide +kernel, jT 1590 (by decide +kernel), jTS (q := (⟨"CrowRotaModel", "sightOf", "(I)I"⟩, 67)) (List.mem_of_getElem? (i := 77) (by decide +kernel)), 11, rfl, by decide +kernel, by decide⟩⟩
set_option maxRecDepth 100000 in
theorem jokc_189 : jokc jy_189.2.2.2.1 (Nat.beq jy_189.2.2.2.2.1 2) jy_189.2.1 jy_189.2.2.2.2.2 0 jc_189 = true := by decide +kernel
theorem jok_189 : jMok (jc_189, 3, 0, 3, 0, 12, 1) jy_189 := ⟨by decide +kernel, by decide +kernel, rfl, jokc_189, rfl, fun h => absurd h (by decide)⟩
set_option maxRecDepth 100000 in
theorem jca_189 : jMcall (jc_189, 3, 0, 3, 0, 12, 1) jy_189 := ⟨⟨by decide +kernel, by decide +kernel⟩, jT 1628 rfl, jT 18 (by decide +kernel), by decide, by decide, ⟨by decide +kernel, jT 1627 (by decide +kernel), jTS (q := (⟨"CrowRotaModel", "farOf", "(II)I"⟩, 67)) (List.mem_of_getElem? (i := 84) (by decide +kernel)), 11, rfl, by decide +kernel, by decide⟩⟩
set_option maxRecDepth 100000 in
theorem jokc_190 : jokc jy_190.2.2.2.1 (Nat.beq jy_190.2.2.2.2.1 2) jy_190.2.1 jy_190.2.2.2.2.2 0 jc_190 = true := by decide +kernel
theorem jok_190 : jMok (jc_190, 6, 0, 6, 1, 12, 0) jy_190 := ⟨by decide +kernel, by decide +kernel, rfl, jokc_190, rfl, fun h => absurd h (by decide)⟩
set_option maxRecDepth 100000 in
theorem jca_190 : jMcall (jc_190, 6, 0, 6, 1, 12, 0) jy_190 := ⟨⟨by decide +kernel, by decide +kernel⟩, jT 1595 rfl, jT 18 (by decide +kernel), by decide, by decide, ⟨by decide +kernel, jT 1594 (by decide +kernel), jTS (q := (⟨"CrowRotaModel", "calls", "(IIIII)V"⟩, 67)) (List.mem_of_getElem? (i := 78) (by decide +kernel)), 11, rfl, by decide +kernel, by decide⟩⟩
set_option maxRecDepth 100000 in
theorem jokc_191 : jokc jy_191.2.2.2.1 (Nat.beq jy_191.2.2.2.2.1 2) jy_191.2.1 jy_191.2.2.2.2.2 0 jc_191 = true := by decide +kernel
theorem jok_191 : jMok (jc_191, 7, 0, 6, 3, 12, 2) jy_191 := ⟨by decide +kernel, by decide +kernel, rfl, jokc_191, rfl, fun h => absurd h (by decide)⟩
set_option maxRecDepth 100000 in
theorem jca_191 : jMcall (jc_191, 7, 0, 6, 3, 12, 2) jy_191 := ⟨⟨by decide +kernel, by decide +kernel⟩, jT 1624 rfl, jT 18 (by decide +kernel), by decide, by decide, ⟨by decide +kernel, jT 1623 (by decide +kernel), jTS (q := (⟨"CrowRotaModel", "isSeenBy", "(IIIII)Z"⟩, 67)) (List.mem_of_getElem? (i := 83) (by decide +kernel)), 11, rfl, by decide +kernel, by decide⟩⟩
set_option maxRecDepth 100000 in
theorem jokc_192 : jokc jy_192.2.2.2.1 (Nat.beq jy_192.2.2.2.2.1 2) jy_192.2.1 jy_192.2.2.2.2.2 0 jc_192 = true := by decide +kernel
theorem jok_192 : jMok (jc_192, 4, 0, 4, 4, 12, 2) jy_192 := ⟨by decide +kernel, by decide +kernel, rfl, jokc_192, rfl, fun h => absurd h (by decide)⟩
set_option maxRecDepth 100000 in
theorem jca_192 : jMcall (jc_192, 4, 0, 4, 4, 12, 2) jy_192 := ⟨⟨by decide +kernel, by decide +kernel⟩, jT 1620 rfl, jT 18 (by decide +kernel), by decide, by decide, ⟨by decide +kernel, jT 1619 (by decide +kernel), jTS (q := (⟨"CrowRotaModel", "isSeen", "(III)Z"⟩, 67)) (List.mem_of_getElem? (i := 82) (by decide +kernel)), 11, rfl, by decide +kernel, by decide⟩⟩
set_option maxRecDepth 100000 in
theorem jokc_193 : jokc jy_193.2.2.2.1 (Nat.beq jy_193.2.2.2.2.1 2) jy_193.2.1 jy_193.2.2.2.2.2 0 jc_193 = true := by decide +kernel
theorem jok_193 : jMok (jc_193, 5, 0, 3, 3, 12, 1) jy_193 := ⟨by decide +kernel, by decide +kernel, rfl, jokc_193, rfl, fun h => absurd h (by decide)⟩
set_option maxRecDepth 100000 in
theorem jca_193 : jMcall (jc_193, 5, 0, 3, 3, 12, 1) jy_193 := ⟨⟨by decide +kernel, by decide +kernel⟩, jT 1686 rfl, jT 18 (by decide +kernel), by decide, by decide, ⟨by decide +kernel, jT 1685 (by decide +kernel), jTS (q := (⟨"CrowRotaModel", "eats", "(II)I"⟩, 67)) (List.mem_of_getElem? (i := 90) (by decide +kernel)), 11, rfl, by decide +kernel, by decide⟩⟩
set_option maxRecDepth 100000 in
theorem jokc_194 : jokc jy_194.2.2.2.1 (Nat.beq jy_194.2.2.2.2.1 2) jy_194.2.1 jy_194.2.2.2.2.2 0 jc_194 = true := by decide +kernel
theorem jok_194 : jMok (jc_194, 3, 0, 3, 3, 12, 1) jy_194 := ⟨by decide +kernel, by decide +kernel, rfl, jokc_194, rfl, fun h => absurd h (by decide)⟩
set_option maxRecDepth 100000 in
theorem jca_194 : jMcall (jc_194, 3, 0, 3, 3, 12, 1) jy_194 := ⟨⟨by decide +kernel, by decide +kernel⟩, jT 1587 rfl, jT 18 (by decide +kernel), by decide, by decide, ⟨by decide +kernel, jT 1586 (by decide +kernel), jTS (q := (⟨"CrowRotaModel", "paysOf", "(II)I"⟩, 67)) (List.mem_of_getElem? (i := 76) (by decide +kernel)), 11, rfl, by decide +kernel, by decide⟩⟩
set_option maxRecDepth 100000 in
theorem jokc_195 : jokc jy_195.2.2.2.1 (Nat.beq jy_195.2.2.2.2.1 2) jy_195.2.1 jy_195.2.2.2.2.2 0 jc_195 = true := by decide +kernel
theorem jok_195 : jMok (jc_195, 3, 0, 3, 0, 12, 2) jy_195 := ⟨by decide +kernel, by decide +kernel, rfl, jokc_195, rfl, fun h => absurd h (by decide)⟩
set_option maxRecDepth 100000 in
theorem jca_195 : jMcall (jc_195, 3, 0, 3, 0, 12, 2) jy_195 := ⟨⟨by decide +kernel, by decide +kernel⟩, jT 1575 rfl, jT 18 (by decide +kernel), by decide, by decide, ⟨by decide +kernel, jT 1574 (by decide +kernel), jTS (q := (⟨"CrowRotaModel", "isOnRota", "(II)Z"⟩, 67)) (List.mem_of_getElem? (i := 73) (by decide +kernel)), 11, rfl, by decide +kernel, by decide⟩⟩
set_option maxRecDepth 100000 in
theorem jokc_196 : jokc jy_196.2.2.2.1 (Nat.beq jy_196.2.2.2.2.1 2) jy_196.2.1 jy_196.2.2.2.2.2 0 jc_196 = true := by decide +kernel
theorem jok_196 : jMok (jc_196, 3, 0, 3, 0, 12, 2) jy_196 := ⟨by decide +kernel, by decide +kernel, rfl, jokc_196, rfl, fun h => absurd h (by decide)⟩
set_option maxRecDepth 100000 in
theorem jca_196 : jMcall (jc_196, 3, 0, 3, 0, 12, 2) jy_196 := ⟨⟨by decide +kernel, by decide +kernel⟩, jT 1579 rfl, jT 18 (by decide +kernel), by decide, by decide, ⟨by decide +kernel, jT 1578 (by decide +kernel), jTS (q := (⟨"CrowRotaModel", "isOnStrike", "(II)Z"⟩, 67)) (List.mem_of_getElem? (i := 74) (by decide +kernel)), 11, rfl, by decide +kernel, by decide⟩⟩
set_option maxRecDepth 100000 in
theorem jokc_197 : jokc jy_197.2.2.2.1 (Nat.beq jy_197.2.2.2.2.1 2) jy_197.2.1 jy_197.2.2.2.2.2 0 jc_197 = true := by decide +kernel
theorem jok_197 : jMok (jc_197, 4, 0, 3, 1, 12, 1) jy_197 := ⟨by decide +kernel, by decide +kernel, rfl, jokc_197, rfl, fun h => absurd h (by decide)⟩
set_option maxRecDepth 100000 in
theorem jca_197 : jMcall (jc_197, 4, 0, 3, 1, 12, 1) jy_197 := ⟨⟨by decide +kernel, by decide +kernel⟩, jT 1571 rfl, jT 18 (by decide +kernel), by decide, by decide, ⟨by decide +kernel, jT 1570 (by decide +kernel), jTS (q := (⟨"CrowRotaModel", "flapsOf", "(II)I"⟩, 67)) (List.mem_of_getElem? (i := 72) (by decide +kernel)), 11, rfl, by decide +kernel, by decide⟩⟩
set_option maxRecDepth 100000 in
theorem jokc_198 : jokc jy_198.2.2.2.1 (Nat.beq jy_198.2.2.2.2.1 2) jy_198.2.1 jy_198.2.2.2.2.2 0 jc_198 = true := by decide +kernel
theorem jok_198 : jMok (jc_198, 7, 0, 3, 5, 12, 1) jy_198 := ⟨by decide +kernel, by decide +kernel, rfl, jokc_198, rfl, fun h => absurd h (by decide)⟩
set_option maxRecDepth 100000 in
theorem jca_198 : jMcall (jc_198, 7, 0, 3, 5, 12, 1) jy_198 := ⟨⟨by decide +kernel, by decide +kernel⟩, jT 1567 rfl, jT 18 (by decide +kernel), by decide, by decide, ⟨by decide +kernel, jT 1566 (by decide +kernel), jTS (q := (⟨"CrowRotaModel", "flaps", "(IZ)I"⟩, 67)) (List.mem_of_getElem? (i := 71) (by decide +kernel)), 11, rfl, by decide +kernel, by decide⟩⟩
set_option maxRecDepth 100000 in
theorem jokc_199 : jokc jy_199.2.2.2.1 (Nat.beq jy_199.2.2.2.2.1 2) jy_199.2.1 jy_199.2.2.2.2.2 0 jc_199 = true := by decide +kernel
theorem jok_199 : jMok (jc_199, 6, 0, 2, 1, 12, 1) jy_199 := ⟨by decide +kernel, by decide +kernel, rfl, jokc_199, rfl, fun h => absurd h (by decide)⟩
set_option maxRecDepth 100000 in
theorem jca_199 : jMcall (jc_199, 6, 0, 2, 1, 12, 1) jy_199 := ⟨⟨by decide +kernel, by decide +kernel⟩, jT 1682 rfl, jT 18 (by decide +kernel), by decide, by decide, ⟨by decide +kernel, jT 1681 (by decide +kernel), jTS (q := (⟨"CrowRotaModel", "comes", "(I)I"⟩, 67)) (List.mem_of_getElem? (i := 89) (by decide +kernel)), 11, rfl, by decide +kernel, by decide⟩⟩
set_option maxRecDepth 100000 in
theorem jokc_200 : jokc jy_200.2.2.2.1 (Nat.beq jy_200.2.2.2.2.1 2) jy_200.2.1 jy_200.2.2.2.2.2 0 jc_200 = true := by decide +kernel
theorem jok_200 : jMok (jc_200, 5, 0, 2, 6, 12, 0) jy_200 := ⟨by decide +kernel, by decide +kernel, rfl, jokc_200, rfl, fun h => absurd h (by decide)⟩
set_option maxRecDepth 100000 in
theorem jca_200 : jMcall (jc_200, 5, 0, 2, 6, 12, 0) jy_200 := ⟨⟨by decide +kernel, by decide +kernel⟩, jT 1678 rfl, jT 18 (by decide +kernel), by decide, by decide, ⟨by decide +kernel, jT 1677 (by decide +kernel), jTS (q := (⟨"CrowRotaModel", "passes", "(I)V"⟩, 67)) (List.mem_of_getElem? (i := 88) (by decide +kernel)), 11, rfl, by decide +kernel, by decide⟩⟩
set_option maxRecDepth 100000 in
theorem jokc_201 : jokc jy_201.2.2.2.1 (Nat.beq jy_201.2.2.2.2.1 2) jy_201.2.1 jy_201.2.2.2.2.2 0 jc_201 = true := by decide +kernel
theorem jok_201 : jMok (jc_201, 3, 0, 2, 7, 12, 0) jy_201 := ⟨by decide +kernel, by decide +kernel, rfl, jokc_201, rfl, fun h => absurd h (by decide)⟩
set_option maxRecDepth 100000 in
theorem jca_201 : jMcall (jc_201, 3, 0, 2, 7, 12, 0) jy_201 := ⟨⟨by decide +kernel, by decide +kernel⟩, jT 1714 rfl, jT 18 (by decide +kernel), by decide, by decide, ⟨by decide +kernel, jT 1713 (by decide +kernel), jTS (q := (⟨"CrowRotaModel", "runs", "(I)V"⟩, 67)) (List.mem_of_getElem? (i := 92) (by decide +kernel)), 11, rfl, by decide +kernel, by decide⟩⟩
set_option maxRecDepth 100000 in
theorem jokc_202 : jokc jy_202.2.2.2.1 (Nat.beq jy_202.2.2.2.2.1 2) jy_202.2.1 jy_202.2.2.2.2.2 0 jc_202 = true := by decide +kernel
theorem jok_202 : jMok (jc_202, 3, 0, 3, 6, 12, 1) jy_202 := ⟨by decide +kernel, by decide +kernel, rfl, jokc_202, rfl, fun h => absurd h (by decide)⟩
set_option maxRecDepth 100000 in
theorem jca_202 : jMcall (jc_202, 3, 0, 3, 6, 12, 1) jy_202 := ⟨⟨by decide +kernel, by decide +kernel⟩, jT 1559 rfl, jT 18 (by decide +kernel), by decide, by decide, ⟨by decide +kernel, jT 1557 (by decide +kernel), jT 1558 (by decide +kernel), 11, rfl, by decide +kernel, by decide⟩⟩
set_option maxRecDepth 100000 in
theorem jokc_203 : jokc jy_203.2.2.2.1 (Nat.beq jy_203.2.2.2.2.1 2) jy_203.2.1 jy_203.2.2.2.2.2 0 jc_203 = true := by decide +kernel
theorem jok_203 : jMok (jc_203, 3, 0, 3, 2, 12, 1) jy_203 := ⟨by decide +kernel, by decide +kernel, rfl, jokc_203, rfl, fun h => absurd h (by decide)⟩
set_option maxRecDepth 100000 in
theorem jca_203 : jMcall (jc_203, 3, 0, 3, 2, 12, 1) jy_203 := ⟨⟨by decide +kernel, by decide +kernel⟩, jT 1633 rfl, jT 18 (by decide +kernel), by decide, by decide, ⟨by decide +kernel, jT 1631 (by decide +kernel), jT 1632 (by decide +kernel), 11, rfl, by decide +kernel, by decide⟩⟩
set_option maxRecDepth 100000 in
theorem jokc_204 : jokc jy_204.2.2.2.1 (Nat.beq jy_204.2.2.2.2.1 2) jy_204.2.1 jy_204.2.2.2.2.2 0 jc_204 = true := by decide +kernel
theorem jok_204 : jMok (jc_204, 2, 0, 2, 1, 12, 1) jy_204 := ⟨by decide +kernel, by decide +kernel, rfl, jokc_204, rfl, fun h => absurd h (by decide)⟩
set_option maxRecDepth 100000 in
theorem jca_204 : jMcall (jc_204, 2, 0, 2, 1, 12, 1) jy_204 := ⟨⟨by decide +kernel, by decide +kernel⟩, jT 1641 rfl, jT 18 (by decide +kernel), by decide, by decide, ⟨by decide +kernel, jT 1639 (by decide +kernel), jT 1640 (by decide +kernel), 11, rfl, by decide +kernel, by decide⟩⟩
set_option maxRecDepth 100000 in
theorem jokc_205 : jokc jy_205.2.2.2.1 (Nat.beq jy_205.2.2.2.2.1 2) jy_205.2.1 jy_205.2.2.2.2.2 0 jc_205 = true := by decide +kernel
theorem jok_205 : jMok (jc_205, 3, 0, 3, 5, 12, 1) jy_205 := ⟨by decide +kernel, by decide +kernel, rfl, jokc_205, rfl, fun h => absurd h (by decide)⟩
set_option maxRecDepth 100000 in
theorem jca_205 : jMcall (jc_205, 3, 0, 3, 5, 12, 1) jy_205 := ⟨⟨by decide +kernel, by decide +kernel⟩, jT 1645 rfl, jT 18 (by decide +kernel), by decide, by decide, ⟨by decide +kernel, jT 1643 (by decide +kernel), jT 1644 (by decide +kernel), 11, rfl, by decide +kernel, by decide⟩⟩
set_option maxRecDepth 100000 in
theorem jokc_206 : jokc jy_206.2.2.2.1 (Nat.beq jy_206.2.2.2.2.1 2) jy_206.2.1 jy_206.2.2.2.2.2 0 jc_206 = true := by decide +kernel
theorem jok_206 : jMok (jc_206, 4, 0, 4, 3, 12, 3) jy_206 := ⟨by decide +kernel, by decide +kernel, rfl, jokc_206, rfl, fun h => absurd h (by decide)⟩
set_option maxRecDepth 100000 in
theorem jca_206 : jMcall (jc_206, 4, 0, 4, 3, 12, 3) jy_206 := ⟨⟨by decide +kernel, by decide +kernel⟩, jT 1649 rfl, jT 18 (by decide +kernel), by decide, by decide, ⟨by decide +kernel, jT 1647 (by decide +kernel), jT 1648 (by decide +kernel), 11, rfl, by decide +kernel, by decide⟩⟩
set_option maxRecDepth 100000 in
theorem jokc_207 : jokc jy_207.2.2.2.1 (Nat.beq jy_207.2.2.2.2.1 2) jy_207.2.1 jy_207.2.2.2.2.2 0 jc_207 = true := by decide +kernel
theorem jok_207 : jMok (jc_207, 2, 0, 1, 1, 12, 0) jy_207 := ⟨by decide +kernel, by decide +kernel, rfl, jokc_207, rfl, fun h => absurd h (by decide)⟩
set_option maxRecDepth 100000 in
theorem jca_207 : jMcall (jc_207, 2, 0, 1, 1, 12, 0) jy_207 := ⟨⟨by decide +kernel, by decide +kernel⟩, jT 1658 rfl, jT 18 (by decide +kernel), by decide, by decide, ⟨by decide +kernel, jT 1657 (by decide +kernel), jTS (q := (⟨"CrowRotaModel", "keepNow", "()V"⟩, 67)) (List.mem_of_getElem? (i := 86) (by decide +kernel)), 11, rfl, by decide +kernel, by decide⟩⟩
set_option maxRecDepth 100000 in
theorem jokc_208 : jokc jy_208.2.2.2.1 (Nat.beq jy_208.2.2.2.2.1 2) jy_208.2.1 jy_208.2.2.2.2.2 0 jc_208 = true := by decide +kernel
theorem jok_208 : jMok (jc_208, 4, 0, 4, 2, 12, 2) jy_208 := ⟨by decide +kernel, by decide +kernel, rfl, jokc_208, rfl, fun h => absurd h (by decide)⟩
set_option maxRecDepth 100000 in
theorem jca_208 : jMcall (jc_208, 4, 0, 4, 2, 12, 2) jy_208 := ⟨⟨by decide +kernel, by decide +kernel⟩, jT 1654 rfl, jT 18 (by decide +kernel), by decide, by decide, ⟨by decide +kernel, jT 1652 (by decide +kernel), jT 1653 (by decide +kernel), 11, rfl, by decide +kernel, by decide⟩⟩
set_option maxRecDepth 100000 in
theorem jokc_209 : jokc jy_209.2.2.2.1 (Nat.beq jy_209.2.2.2.2.1 2) jy_209.2.1 jy_209.2.2.2.2.2 0 jc_209 = true := by decide +kernel
theorem jok_209 : jMok (jc_209, 3, 0, 3, 2, 12, 2) jy_209 := ⟨by decide +kernel, by decide +kernel, rfl, jokc_209, rfl, fun h => absurd h (by decide)⟩
set_option maxRecDepth 100000 in
theorem jca_209 : jMcall (jc_209, 3, 0, 3, 2, 12, 2) jy_209 := ⟨⟨by decide +kernel, by decide +kernel⟩, jT 1666 rfl, jT 18 (by decide +kernel), by decide, by decide, ⟨by decide +kernel, jT 1664 (by decide +kernel), jT 1665 (by decide +kernel), 11, rfl, by decide +kernel, by decide⟩⟩
set_option maxRecDepth 100000 in
theorem jokc_210 : jokc jy_210.2.2.2.1 (Nat.beq jy_210.2.2.2.2.1 2) jy_210.2.1 jy_210.2.2.2.2.2 0 jc_210 = true := by decide +kernel
theorem jok_210 : jMok (jc_210, 3, 0, 3, 2, 12, 2) jy_210 := ⟨by decide +kernel, by decide +kernel, rfl, jokc_210, rfl, fun h => absurd h (by decide)⟩
set_option maxRecDepth 100000 in
theorem jca_210 : jMcall (jc_210, 3, 0, 3, 2, 12, 2) jy_210 := ⟨⟨by decide +kernel, by decide +kernel⟩, jT 1670 rfl, jT 18 (by decide +kernel), by decide, by decide, ⟨by decide +kernel, jT 1668 (by decide +kernel), jT 1669 (by decide +kernel), 11, rfl, by decide +kernel, by decide⟩⟩
set_option maxRecDepth 100000 in
theorem jokc_211 : jokc jy_211.2.2.2.1 (Nat.beq jy_211.2.2.2.2.1 2) jy_211.2.1 jy_211.2.2.2.2.2 0 jc_211 = true := by decide +kernel
theorem jok_211 : jMok (jc_211, 3, 0, 2, 7, 12, 1) jy_211 := ⟨by decide +kernel, by decide +kernel, rfl, jokc_211, rfl, fun h => absurd h (by decide)⟩
set_option maxRecDepth 100000 in
theorem jca_211 : jMcall (jc_211, 3, 0, 2, 7, 12, 1) jy_211 := ⟨⟨by decide +kernel, by decide +kernel⟩, jT 1674 rfl, jT 18 (by decide +kernel), by decide, by decide, ⟨by decide +kernel, jT 1672 (by decide +kernel), jT 1673 (by decide +kernel), 11, rfl, by decide +kernel, by decide⟩⟩
set_option maxRecDepth 100000 in
theorem jokc_212 : jokc jy_212.2.2.2.1 (Nat.beq jy_212.2.2.2.2.1 2) jy_212.2.1 jy_212.2.2.2.2.2 0 jc_212 = true := by decide +kernel
theorem jok_212 : jMok (jc_212, 6, 0, 4, 5, 12, 1) jy_212 := ⟨by decide +kernel, by decide +kernel, rfl, jokc_212, rfl, fun h => absurd h (by decide)⟩
set_option maxRecDepth 100000 in
theorem jca_212 : jMcall (jc_212, 6, 0, 4, 5, 12, 1) jy_212 := ⟨⟨by decide +kernel, by decide +kernel⟩, jT 1691 rfl, jT 18 (by decide +kernel), by decide, by decide, ⟨by decide +kernel, jT 1689 (by decide +kernel), jT 1690 (by decide +kernel), 11, rfl, by decide +kernel, by decide⟩⟩
set_option maxRecDepth 100000 in
theorem jokc_213 : jokc jy_213.2.2.2.1 (Nat.beq jy_213.2.2.2.2.1 2) jy_213.2.1 jy_213.2.2.2.2.2 0 jc_213 = true := by decide +kernel
theorem jok_213 : jMok (jc_213, 4, 0, 2, 1, 12, 1) jy_213 := ⟨by decide +kernel, by decide +kernel, rfl, jokc_213, rfl, fun h => absurd h (by decide)⟩
set_option maxRecDepth 100000 in
theorem jca_213 : jMcall (jc_213, 4, 0, 2, 1, 12, 1) jy_213 := ⟨⟨by decide +kernel, by decide +kernel⟩, jT 1695 rfl, jT 18 (by decide +kernel), by decide, by decide, ⟨by decide +kernel, jT 1693 (by decide +kernel), jT 1694 (by decide +kernel), 11, rfl, by decide +kernel, by decide⟩⟩
set_option maxRecDepth 100000 in
theorem jokc_214 : jokc jy_214.2.2.2.1 (Nat.beq jy_214.2.2.2.2.1 2) jy_214.2.1 jy_214.2.2.2.2.2 0 jc_214 = true := by decide +kernel
theorem jok_214 : jMok (jc_214, 3, 0, 2, 5, 12, 2) jy_214 := ⟨by decide +kernel, by decide +kernel, rfl, jokc_214, rfl, fun h => absurd h (by decide)⟩
set_option maxRecDepth 100000 in
theorem jca_214 : jMcall (jc_214, 3, 0, 2, 5, 12, 2) jy_214 := ⟨⟨by decide +kernel, by decide +kernel⟩, jT 1703 rfl, jT 18 (by decide +kernel), by decide, by decide, ⟨by decide +kernel, jT 1702 (by decide +kernel), jTS (q := (⟨"CrowRotaModel", "seesCrop", "(I)Z"⟩, 67)) (List.mem_of_getElem? (i := 91) (by decide +kernel)), 11, rfl, by decide +kernel, by decide⟩⟩
set_option maxRecDepth 100000 in
theorem jokc_215 : jokc jy_215.2.2.2.1 (Nat.beq jy_215.2.2.2.2.1 2) jy_215.2.1 jy_215.2.2.2.2.2 0 jc_215 = true := by decide +kernel
theorem jok_215 : jMok (jc_215, 3, 0, 1, 6, 12, 1) jy_215 := ⟨by decide +kernel, by decide +kernel, rfl, jokc_215, rfl, fun h => absurd h (by decide)⟩
set_option maxRecDepth 100000 in
theorem jca_215 : jMcall (jc_215, 3, 0, 1, 6, 12, 1) jy_215 := ⟨⟨by decide +kernel, by decide +kernel⟩, jT 1699 rfl, jT 18 (by decide +kernel), by decide, by decide, ⟨by decide +kernel, jT 1697 (by decide +kernel), jT 1698 (by decide +kernel), 11, rfl, by decide +kernel, by decide⟩⟩
set_option maxRecDepth 100000 in
theorem jokc_216 : jokc jy_216.2.2.2.1 (Nat.beq jy_216.2.2.2.2.1 2) jy_216.2.1 jy_216.2.2.2.2.2 0 jc_216 = true := by decide +kernel
theorem jok_216 : jMok (jc_216, 1, 0, 1, 0, 0, 2) jy_216 := ⟨by decide +kernel, by decide +kernel, rfl, jokc_216, rfl, fun h => absurd h (by decide)⟩
set_option maxRecDepth 100000 in
theorem jca_216 : jMcall (jc_216, 1, 0, 1, 0, 0, 2) jy_216 := ⟨⟨by decide +kernel, by decide +kernel⟩, jT 1710 rfl, jT 18 (by decide +kernel), by decide, by decide, ⟨by decide +kernel, jT 1709 (by decide +kernel)⟩⟩
set_option maxRecDepth 100000 in
theorem jokc_217 : jokc jy_217.2.2.2.1 (Nat.beq jy_217.2.2.2.2.1 2) jy_217.2.1 jy_217.2.2.2.2.2 0 jc_217 = true := by decide +kernel
theorem jok_217 : jMok (jc_217, 3, 0, 3, 8, 12, 1) jy_217 := ⟨by decide +kernel, by decide +kernel, rfl, jokc_217, rfl, fun h => absurd h (by decide)⟩
set_option maxRecDepth 100000 in
theorem jca_217 : jMcall (jc_217, 3, 0, 3, 8, 12, 1) jy_217 := ⟨⟨by decide +kernel, by decide +kernel⟩, jT 1707 rfl, jT 18 (by decide +kernel), by decide, by decide, ⟨by decide +kernel, jT 1705 (by decide +kernel), jT 1706 (by decide +kernel), 11, rfl, by decide +kernel, by decide⟩⟩
set_option maxRecDepth 100000 in
theorem jokc_218 : jokc jy_218.2.2.2.1 (Nat.beq jy_218.2.2.2.2.1 2) jy_218.2.1 jy_218.2.2.2.2.2 0 jc_218 = true := by decide +kernel
theorem jok_218 : jMok (jc_218, 3, 0, 2, 7, 12, 1) jy_218 := ⟨by decide +kernel, by decide +kernel, rfl, jokc_218, rfl, fun h => absurd h (by decide)⟩
set_option maxRecDepth 100000 in
theorem jca_218 : jMcall (jc_218, 3, 0, 2, 7, 12, 1) jy_218 := ⟨⟨by decide +kernel, by decide +kernel⟩, jT 1718 rfl, jT 18 (by decide +kernel), by decide, by decide, ⟨by decide +kernel, jT 1716 (by decide +kernel), jT 1717 (by decide +kernel), 11, rfl, by decide +kernel, by decide⟩⟩
set_option maxRecDepth 100000 in
theorem jokc_219 : jokc jy_219.2.2.2.1 (Nat.beq jy_219.2.2.2.2.1 2) jy_219.2.1 jy_219.2.2.2.2.2 0 jc_219 = true := by decide +kernel
theorem jok_219 : jMok (jc_219, 3, 0, 1, 0, 0, 1) jy_219 := ⟨by decide +kernel, by decide +kernel, rfl, jokc_219, rfl, fun h => absurd h (by decide)⟩
set_option maxRecDepth 100000 in
theorem jca_219 : jMcall (jc_219, 3, 0, 1, 0, 0, 1) jy_219 := ⟨⟨by decide +kernel, by decide +kernel⟩, jT 1729 rfl, jT 18 (by decide +kernel), by decide, by decide, ⟨by decide +kernel, jT 1728 (by decide +kernel)⟩⟩
set_option maxRecDepth 100000 in
theorem jokc_220 : jokc jy_220.2.2.2.1 (Nat.beq jy_220.2.2.2.2.1 2) jy_220.2.1 jy_220.2.2.2.2.2 0 jc_220 = true := by decide +kernel
theorem jok_220 : jMok (jc_220, 6, 0, 3, 8, 12, 0) jy_220 := ⟨by decide +kernel, by decide +kernel, rfl, jokc_220, rfl, fun h => absurd h (by decide)⟩
set_option maxRecDepth 100000 in
theorem jca_220 : jMcall (jc_220, 6, 0, 3, 8, 12, 0) jy_220 := ⟨⟨by decide +kernel, by decide +kernel⟩, jT 1726 rfl, jT 18 (by decide +kernel), by decide, by decide, ⟨by decide +kernel, jT 1725 (by decide +kernel), jTS (q := (⟨"CrowRotaModel", "layKeeping", "(II)V"⟩, 67)) (List.mem_of_getElem? (i := 93) (by decide +kernel)), 11, rfl, by decide +kernel, by decide⟩⟩
set_option maxRecDepth 100000 in
theorem jokc_221 : jokc jy_221.2.2.2.1 (Nat.beq jy_221.2.2.2.2.1 2) jy_221.2.1 jy_221.2.2.2.2.2 0 jc_221 = true := by decide +kernel
theorem jok_221 : jMok (jc_221, 4, 0, 4, 9, 12, 1) jy_221 := ⟨by decide +kernel, by decide +kernel, rfl, jokc_221, rfl, fun h => absurd h (by decide)⟩
set_option maxRecDepth 100000 in
theorem jca_221 : jMcall (jc_221, 4, 0, 4, 9, 12, 1) jy_221 := ⟨⟨by decide +kernel, by decide +kernel⟩, jT 1722 rfl, jT 18 (by decide +kernel), by decide, by decide, ⟨by decide +kernel, jT 1720 (by decide +kernel), jT 1721 (by decide +kernel), 11, rfl, by decide +kernel, by decide⟩⟩
set_option maxRecDepth 100000 in
theorem jokc_222 : jokc jy_222.2.2.2.1 (Nat.beq jy_222.2.2.2.2.1 2) jy_222.2.1 jy_222.2.2.2.2.2 0 jc_222 = true := by decide +kernel
theorem jok_222 : jMok (jc_222, 6, 0, 1, 5, 12, 1) jy_222 := ⟨by decide +kernel, by decide +kernel, rfl, jokc_222, rfl, fun h => absurd h (by decide)⟩
set_option maxRecDepth 100000 in
theorem jca_222 : jMcall (jc_222, 6, 0, 1, 5, 12, 1) jy_222 := ⟨⟨by decide +kernel, by decide +kernel⟩, jT 1733 rfl, jT 18 (by decide +kernel), by decide, by decide, ⟨by decide +kernel, jT 1731 (by decide +kernel), jT 1732 (by decide +kernel), 11, rfl, by decide +kernel, by decide⟩⟩
set_option maxRecDepth 100000 in
theorem jokc_223 : jokc jy_223.2.2.2.1 (Nat.beq jy_223.2.2.2.2.1 2) jy_223.2.1 jy_223.2.2.2.2.2 0 jc_223 = true := by decide +kernel
theorem jok_223 : jMok (jc_223, 9, 0, 3, 5, 12, 1) jy_223 := ⟨by decide +kernel, by decide +kernel, rfl, jokc_223, rfl, fun h => absurd h (by decide)⟩
set_option maxRecDepth 100000 in
theorem jca_223 : jMcall (jc_223, 9, 0, 3, 5, 12, 1) jy_223 := ⟨⟨by decide +kernel, by decide +kernel⟩, jT 1737 rfl, jT 18 (by decide +kernel), by decide, by decide, ⟨by decide +kernel, jT 1735 (by decide +kernel), jT 1736 (by decide +kernel), 11, rfl, by decide +kernel, by decide⟩⟩
set_option maxRecDepth 100000 in
theorem jokc_224 : jokc jy_224.2.2.2.1 (Nat.beq jy_224.2.2.2.2.1 2) jy_224.2.1 jy_224.2.2.2.2.2 0 jc_224 = true := by decide +kernel
theorem jok_224 : jMok (jc_224, 6, 0, 4, 8, 12, 1) jy_224 := ⟨by decide +kernel, by decide +kernel, rfl, jokc_224, rfl, fun h => absurd h (by decide)⟩
set_option maxRecDepth 100000 in
theorem jca_224 : jMcall (jc_224, 6, 0, 4, 8, 12, 1) jy_224 := ⟨⟨by decide +kernel, by decide +kernel⟩, jT 1741 rfl, jT 18 (by decide +kernel), by decide, by decide, ⟨by decide +kernel, jT 1739 (by decide +kernel), jT 1740 (by decide +kernel), 11, rfl, by decide +kernel, by decide⟩⟩
set_option maxRecDepth 100000 in
theorem jokc_225 : jokc jy_225.2.2.2.1 (Nat.beq jy_225.2.2.2.2.1 2) jy_225.2.1 jy_225.2.2.2.2.2 0 jc_225 = true := by decide +kernel
theorem jok_225 : jMok (jc_225, 3, 0, 1, 0, 12, 1) jy_225 := ⟨by decide +kernel, by decide +kernel, rfl, jokc_225, rfl, fun h => absurd h (by decide)⟩
set_option maxRecDepth 100000 in
theorem jca_225 : jMcall (jc_225, 3, 0, 1, 0, 12, 1) jy_225 := ⟨⟨by decide +kernel, by decide +kernel⟩, jT 1754 rfl, jT 18 (by decide +kernel), by decide, by decide, ⟨by decide +kernel, jT 1753 (by decide +kernel), jTS (q := (⟨"CrowRotaModel", "sureOf", "()I"⟩, 67)) (List.mem_of_getElem? (i := 95) (by decide +kernel)), 11, rfl, by decide +kernel, by decide⟩⟩
set_option maxRecDepth 100000 in
theorem jokc_226 : jokc jy_226.2.2.2.1 (Nat.beq jy_226.2.2.2.2.1 2) jy_226.2.1 jy_226.2.2.2.2.2 0 jc_226 = true := by decide +kernel
theorem jok_226 : jMok (jc_226, 10, 10, 2, 0, 0, 3) jy_226 := ⟨by decide +kernel, by decide +kernel, rfl, jokc_226, rfl, fun h => absurd h (by decide)⟩
set_option maxRecDepth 100000 in
theorem jca_226 : jMcall (jc_226, 10, 10, 2, 0, 0, 3) jy_226 := ⟨⟨by decide +kernel, by decide +kernel⟩, jT 1758 rfl, jT 18 (by decide +kernel), by decide, by decide, ⟨by decide +kernel, jT 1757 (by decide +kernel)⟩⟩
set_option maxRecDepth 100000 in
theorem jokc_227 : jokc jy_227.2.2.2.1 (Nat.beq jy_227.2.2.2.2.1 2) jy_227.2.1 jy_227.2.2.2.2.2 0 jc_227 = true := by decide +kernel
theorem jok_227 : jMok (jc_227, 14, 14, 1, 1, 12, 0) jy_227 := ⟨by decide +kernel, by decide +kernel, rfl, jokc_227, rfl, fun h => absurd h (by decide)⟩
set_option maxRecDepth 100000 in
theorem jca_227 : jMcall (jc_227, 14, 14, 1, 1, 12, 0) jy_227 := ⟨⟨by decide +kernel, by decide +kernel⟩, jT 1750 rfl, jT 18 (by decide +kernel), by decide, by decide, ⟨by decide +kernel, jT 1749 (by decide +kernel), jTS (q := (⟨"CrowRotaModel", "layLot", "()V"⟩, 67)) (List.mem_of_getElem? (i := 94) (by decide +kernel)), 11, rfl, by decide +kernel, by decide⟩⟩
set_option maxRecDepth 100000 in
theorem jokc_228 : jokc jy_228.2.2.2.1 (Nat.beq jy_228.2.2.2.2.1 2) jy_228.2.1 jy_228.2.2.2.2.2 0 jc_228 = true := by decide +kernel
theorem jok_228 : jMok (jc_228, 9, 0, 6, 5, 12, 1) jy_228 := ⟨by decide +kernel, by decide +kernel, rfl, jokc_228, rfl, fun h => absurd h (by decide)⟩
set_option maxRecDepth 100000 in
theorem jca_228 : jMcall (jc_228, 9, 0, 6, 5, 12, 1) jy_228 := ⟨⟨by decide +kernel, by decide +kernel⟩, jT 1746 rfl, jT 18 (by decide +kernel), by decide, by decide, ⟨by decide +kernel, jT 1744 (by decide +kernel), jT 1745 (by decide +kernel), 11, rfl, by decide +kernel, by decide⟩⟩
set_option maxRecDepth 100000 in
theorem jokc_229 : jokc jy_229.2.2.2.1 (Nat.beq jy_229.2.2.2.2.1 2) jy_229.2.1 jy_229.2.2.2.2.2 0 jc_229 = true := by decide +kernel
theorem jok_229 : jMok (jc_229, 7, 0, 3, 1, 12, 1) jy_229 := ⟨by decide +kernel, by decide +kernel, rfl, jokc_229, rfl, fun h => absurd h (by decide)⟩
set_option maxRecDepth 100000 in
theorem jca_229 : jMcall (jc_229, 7, 0, 3, 1, 12, 1) jy_229 := ⟨⟨by decide +kernel, by decide +kernel⟩, jT 1762 rfl, jT 18 (by decide +kernel), by decide, by decide, ⟨by decide +kernel, jT 1760 (by decide +kernel), jT 1761 (by decide +kernel), 11, rfl, by decide +kernel, by decide⟩⟩
set_option maxRecDepth 100000 in
theorem jokc_230 : jokc jy_230.2.2.2.1 (Nat.beq jy_230.2.2.2.2.1 2) jy_230.2.1 jy_230.2.2.2.2.2 0 jc_230 = true := by decide +kernel
theorem jok_230 : jMok (jc_230, 5, 0, 5, 2, 12, 1) jy_230 := ⟨by decide +kernel, by decide +kernel, rfl, jokc_230, rfl, fun h => absurd h (by decide)⟩
set_option maxRecDepth 100000 in
theorem jca_230 : jMcall (jc_230, 5, 0, 5, 2, 12, 1) jy_230 := ⟨⟨by decide +kernel, by decide +kernel⟩, jT 1766 rfl, jT 18 (by decide +kernel), by decide, by decide, ⟨by decide +kernel, jT 1764 (by decide +kernel), jT 1765 (by decide +kernel), 11, rfl, by decide +kernel, by decide⟩⟩
set_option maxRecDepth 100000 in
theorem jokc_231 : jokc jy_231.2.2.2.1 (Nat.beq jy_231.2.2.2.2.1 2) jy_231.2.1 jy_231.2.2.2.2.2 0 jc_231 = true := by decide +kernel
theorem jok_231 : jMok (jc_231, 2, 0, 2, 0, 12, 1) jy_231 := ⟨by decide +kernel, by decide +kernel, rfl, jokc_231, rfl, fun h => absurd h (by decide)⟩
set_option maxRecDepth 100000 in
theorem jca_231 : jMcall (jc_231, 2, 0, 2, 0, 12, 1) jy_231 := ⟨⟨by decide +kernel, by decide +kernel⟩, jT 1770 rfl, jT 18 (by decide +kernel), by decide, by decide, ⟨by decide +kernel, jT 1768 (by decide +kernel), jT 1769 (by decide +kernel), 11, rfl, by decide +kernel, by decide⟩⟩
set_option maxRecDepth 100000 in
theorem jokc_232 : jokc jy_232.2.2.2.1 (Nat.beq jy_232.2.2.2.2.1 2) jy_232.2.1 jy_232.2.2.2.2.2 0 jc_232 = true := by decide +kernel
theorem jok_232 : jMok (jc_232, 2, 0, 2, 0, 12, 2) jy_232 := ⟨by decide +kernel, by decide +kernel, rfl, jokc_232, rfl, fun h => absurd h (by decide)⟩
set_option maxRecDepth 100000 in
theorem jca_232 : jMcall (jc_232, 2, 0, 2, 0, 12, 2) jy_232 := ⟨⟨by decide +kernel, by decide +kernel⟩, jT 1774 rfl, jT 18 (by decide +kernel), by decide, by decide, ⟨by decide +kernel, jT 1772 (by decide +kernel), jT 1773 (by decide +kernel), 11, rfl, by decide +kernel, by decide⟩⟩
set_option maxRecDepth 100000 in
theorem jokc_233 : jokc jy_233.2.2.2.1 (Nat.beq jy_233.2.2.2.2.1 2) jy_233.2.1 jy_233.2.2.2.2.2 0 jc_233 = true := by decide +kernel
theorem jok_233 : jMok (jc_233, 1, 0, 1, 0, 12, 1) jy_233 := ⟨by decide +kernel, by decide +kernel, rfl, jokc_233, rfl, fun h => absurd h (by decide)⟩
set_option maxRecDepth 100000 in
theorem jca_233 : jMcall (jc_233, 1, 0, 1, 0, 12, 1) jy_233 := ⟨⟨by decide +kernel, by decide +kernel⟩, jT 1782 rfl, jT 18 (by decide +kernel), by decide, by decide, ⟨by decide +kernel, jT 1781 (by decide +kernel), jTS (q := (⟨"CrowRotaModel", "knownMany", "()I"⟩, 67)) (List.mem_of_getElem? (i := 96) (by decide +kernel)), 11, rfl, by decide +kernel, by decide⟩⟩
set_option maxRecDepth 100000 in
theorem jokc_234 : jokc jy_234.2.2.2.1 (Nat.beq jy_234.2.2.2.2.1 2) jy_234.2.1 jy_234.2.2.2.2.2 0 jc_234 = true := by decide +kernel
theorem jok_234 : jMok (jc_234, 3, 0, 2, 1, 12, 2) jy_234 := ⟨by decide +kernel, by decide +kernel, rfl, jokc_234, rfl, fun h => absurd h (by decide)⟩
set_option maxRecDepth 100000 in
theorem jca_234 : jMcall (jc_234, 3, 0, 2, 1, 12, 2) jy_234 := ⟨⟨by decide +kernel, by decide +kernel⟩, jT 1790 rfl, jT 18 (by decide +kernel), by decide, by decide, ⟨by decide +kernel, jT 1789 (by decide +kernel), jTS (q := (⟨"CrowRotaModel", "isSo", "(I)Z"⟩, 67)) (List.mem_of_getElem? (i := 98) (by decide +kernel)), 11, rfl, by decide +kernel, by decide⟩⟩
set_option maxRecDepth 100000 in
theorem jokc_235 : jokc jy_235.2.2.2.1 (Nat.beq jy_235.2.2.2.2.1 2) jy_235.2.1 jy_235.2.2.2.2.2 0 jc_235 = true := by decide +kernel
theorem jok_235 : jMok (jc_235, 5, 0, 4, 7, 12, 2) jy_235 := ⟨by decide +kernel, by decide +kernel, rfl, jokc_235, rfl, fun h => absurd h (by decide)⟩
set_option maxRecDepth 100000 in
theorem jca_235 : jMcall (jc_235, 5, 0, 4, 7, 12, 2) jy_235 := ⟨⟨by decide +kernel, by decide +kernel⟩, jT 1786 rfl, jT 18 (by decide +kernel), by decide, by decide, ⟨by decide +kernel, jT 1785 (by decide +kernel), jTS (q := (⟨"CrowRotaModel", "fitsHour", "(III)Z"⟩, 67)) (List.mem_of_getElem? (i := 97) (by decide +kernel)), 11, rfl, by decide +kernel, by decide⟩⟩
set_option maxRecDepth 100000 in
theorem jokc_236 : jokc jy_236.2.2.2.1 (Nat.beq jy_236.2.2.2.2.1 2) jy_236.2.1 jy_236.2.2.2.2.2 0 jc_236 = true := by decide +kernel
theorem jok_236 : jMok (jc_236, 5, 0, 2, 8, 12, 1) jy_236 := ⟨by decide +kernel, by decide +kernel, rfl, jokc_236, rfl, fun h => absurd h (by decide)⟩
set_option maxRecDepth 100000 in
theorem jca_236 : jMcall (jc_236, 5, 0, 2, 8, 12, 1) jy_236 := ⟨⟨by decide +kernel, by decide +kernel⟩, jT 1778 rfl, jT 18 (by decide +kernel), by decide, by decide, ⟨by decide +kernel, jT 1776 (by decide +kernel), jT 1777 (by decide +kernel), 11, rfl, by decide +kernel, by decide⟩⟩
set_option maxRecDepth 100000 in
theorem jokc_237 : jokc jy_237.2.2.2.1 (Nat.beq jy_237.2.2.2.2.1 2) jy_237.2.1 jy_237.2.2.2.2.2 0 jc_237 = true := by decide +kernel
theorem jok_237 : jMok (jc_237, 8, 0, 4, 8, 12, 1) jy_237 := ⟨by decide +kernel, by decide +kernel, rfl, jokc_237, rfl, fun h => absurd h (by decide)⟩
set_option maxRecDepth 100000 in
theorem jca_237 : jMcall (jc_237, 8, 0, 4, 8, 12, 1) jy_237 := ⟨⟨by decide +kernel, by decide +kernel⟩, jT 1794 rfl, jT 18 (by decide +kernel), by decide, by decide, ⟨by decide +kernel, jT 1792 (by decide +kernel), jT 1793 (by decide +kernel), 11, rfl, by decide +kernel, by decide⟩⟩
set_option maxRecDepth 100000 in
theorem jokc_238 : jokc jy_238.2.2.2.1 (Nat.beq jy_238.2.2.2.2.1 2) jy_238.2.1 jy_238.2.2.2.2.2 0 jc_238 = true := by decide +kernel
theorem jok_238 : jMok (jc_238, 5, 0, 4, 8, 12, 1) jy_238 := ⟨by decide +kernel, by decide +kernel, rfl, jokc_238, rfl, fun h => absurd h (by decide)⟩
set_option maxRecDepth 100000 in
theorem jca_238 : jMcall (jc_238, 5, 0, 4, 8, 12, 1) jy_238 := ⟨⟨by decide +kernel, by decide +kernel⟩, jT 1800 rfl, jT 18 (by decide +kernel), by decide, by decide, ⟨by decide +kernel, jT 1798 (by decide +kernel), jT 1799 (by decide +kernel), 11, rfl, by decide +kernel, by decide⟩⟩
set_option maxRecDepth 100000 in
theorem jokc_239 : jokc jy_239.2.2.2.1 (Nat.beq jy_239.2.2.2.2.1 2) jy_239.2.1 jy_239.2.2.2.2.2 0 jc_239 = true := by decide +kernel
theorem jok_239 : jMok (jc_239, 1, 0, 1, 1, 12, 1) jy_239 := ⟨by decide +kernel, by decide +kernel, rfl, jokc_239, rfl, fun h => absurd h (by decide)⟩
set_option maxRecDepth 100000 in
theorem jca_239 : jMcall (jc_239, 1, 0, 1, 1, 12, 1) jy_239 := ⟨⟨by decide +kernel, by decide +kernel⟩, jT 1804 rfl, jT 18 (by decide +kernel), by decide, by decide, ⟨by decide +kernel, jT 1802 (by decide +kernel), jT 1803 (by decide +kernel), 11, rfl, by decide +kernel, by decide⟩⟩
set_option maxRecDepth 100000 in
theorem jokc_240 : jokc jy_240.2.2.2.1 (Nat.beq jy_240.2.2.2.2.1 2) jy_240.2.1 jy_240.2.2.2.2.2 0 jc_240 = true := by decide +kernel
theorem jok_240 : jMok (jc_240, 1, 0, 1, 1, 12, 1) jy_240 := ⟨by decide +kernel, by decide +kernel, rfl, jokc_240, rfl, fun h => absurd h (by decide)⟩
set_option maxRecDepth 100000 in
theorem jca_240 : jMcall (jc_240, 1, 0, 1, 1, 12, 1) jy_240 := ⟨⟨by decide +kernel, by decide +kernel⟩, jT 1808 rfl, jT 18 (by decide +kernel), by decide, by decide, ⟨by decide +kernel, jT 1806 (by decide +kernel), jT 1807 (by decide +kernel), 11, rfl, by decide +kernel, by decide⟩⟩
set_option maxRecDepth 100000 in
theorem jokc_241 : jokc jy_241.2.2.2.1 (Nat.beq jy_241.2.2.2.2.1 2) jy_241.2.1 jy_241.2.2.2.2.2 0 jc_241 = true := by decide +kernel
theorem jok_241 : jMok (jc_241, 1, 0, 1, 1, 12, 1) jy_241 := ⟨by decide +kernel, by decide +kernel, rfl, jokc_241, rfl, fun h => absurd h (by decide)⟩
set_option maxRecDepth 100000 in
theorem jca_241 : jMcall (jc_241, 1, 0, 1, 1, 12, 1) jy_241 := ⟨⟨by decide +kernel, by decide +kernel⟩, jT 1812 rfl, jT 18 (by decide +kernel), by decide, by decide, ⟨by decide +kernel, jT 1810 (by decide +kernel), jT 1811 (by decide +kernel), 11, rfl, by decide +kernel, by decide⟩⟩
set_option maxRecDepth 100000 in
theorem jokc_242 : jokc jy_242.2.2.2.1 (Nat.beq jy_242.2.2.2.2.1 2) jy_242.2.1 jy_242.2.2.2.2.2 0 jc_242 = true := by decide +kernel
theorem jok_242 : jMok (jc_242, 4, 0, 2, 1, 12, 1) jy_242 := ⟨by decide +kernel, by decide +kernel, rfl, jokc_242, rfl, fun h => absurd h (by decide)⟩
set_option maxRecDepth 100000 in
theorem jca_242 : jMcall (jc_242, 4, 0, 2, 1, 12, 1) jy_242 := ⟨⟨by decide +kernel, by decide +kernel⟩, jT 1816 rfl, jT 18 (by decide +kernel), by decide, by decide, ⟨by decide +kernel, jT 1814 (by decide +kernel), jT 1815 (by decide +kernel), 11, rfl, by decide +kernel, by decide⟩⟩
set_option maxRecDepth 100000 in
theorem jokc_243 : jokc jy_243.2.2.2.1 (Nat.beq jy_243.2.2.2.2.1 2) jy_243.2.1 jy_243.2.2.2.2.2 0 jc_243 = true := by decide +kernel
theorem jok_243 : jMok (jc_243, 4, 0, 2, 0, 0, 0) jy_243 := ⟨by decide +kernel, by decide +kernel, rfl, jokc_243, rfl, fun h => absurd h (by decide)⟩
set_option maxRecDepth 100000 in
theorem jca_243 : jMcall (jc_243, 4, 0, 2, 0, 0, 0) jy_243 := ⟨⟨by decide +kernel, by decide +kernel⟩, jT 187 rfl, jT 10 (by decide +kernel), by decide, by decide, ⟨by decide +kernel, jT 186 (by decide +kernel)⟩⟩
set_option maxRecDepth 100000 in
theorem jokc_244 : jokc jy_244.2.2.2.1 (Nat.beq jy_244.2.2.2.2.1 2) jy_244.2.1 jy_244.2.2.2.2.2 0 jc_244 = true := by decide +kernel
theorem jok_244 : jMok (jc_244, 1, 0, 1, 0, 0, 1) jy_244 := ⟨by decide +kernel, by decide +kernel, rfl, jokc_244, rfl, fun h => absurd h (by decide)⟩
set_option maxRecDepth 100000 in
theorem jca_244 : jMcall (jc_244, 1, 0, 1, 0, 0, 1) jy_244 := ⟨⟨by decide +kernel, by decide +kernel⟩, jT 918 rfl, jT 25 (by decide +kernel), by decide, by decide, ⟨by decide +kernel, jT 917 (by decide +kernel)⟩⟩
set_option maxRecDepth 100000 in
theorem jokx_245_0 : jokl jy_245.2.2.2.1 (Nat.beq jy_245.2.2.2.2.1 2) jy_245.2.1 jy_245.2.2.2.2.2 (16 * 0) jc_245_0 = true := by decide +kernel
set_option maxRecDepth 100000 in
theorem jokx_245_1 : jokl jy_245.2.2.2.1 (Nat.beq jy_245.2.2.2.2.1 2) jy_245.2.1 jy_245.2.2.2.2.2 (16 * 1) jc_245_1 = true := by decide +kernel
set_option maxRecDepth 100000 in
theorem jokx_245_2 : jokl jy_245.2.2.2.1 (Nat.beq jy_245.2.2.2.2.1 2) jy_245.2.1 jy_245.2.2.2.2.2 (16 * 2) jc_245_2 = true := by decide +kernel
set_option maxRecDepth 100000 in
theorem jokx_245_3 : jokl jy_245.2.2.2.1 (Nat.beq jy_245.2.2.2.2.1 2) jy_245.2.1 jy_245.2.2.2.2.2 (16 * 3) jc_245_3 = true := by decide +kernel
set_option maxRecDepth 100000 in
theorem jokx_245_4 : jokl jy_245.2.2.2.1 (Nat.beq jy_245.2.2.2.2.1 2) jy_245.2.1 jy_245.2.2.2.2.2 (16 * 4) jc_245_4 = true := by decide +kernel
set_option maxRecDepth 100000 in
theorem jokx_245_5 : jokl jy_245.2.2.2.1 (Nat.beq jy_245.2.2.2.2.1 2) jy_245.2.1 jy_245.2.2.2.2.2 (16 * 5) jc_245_5 = true := by decide +kernel
set_option maxRecDepth 100000 in
theorem jokx_245_6 : jokl jy_245.2.2.2.1 (Nat.beq jy_245.2.2.2.2.1 2) jy_245.2.1 jy_245.2.2.2.2.2 (16 * 6) jc_245_6 = true := by decide +kernel
set_option maxRecDepth 100000 in
theorem jokx_245_7 : jokl jy_245.2.2.2.1 (Nat.beq jy_245.2.2.2.2.1 2) jy_245.2.1 jy_245.2.2.2.2.2 (16 * 7) jc_245_7 = true := by decide +kernel
set_option maxRecDepth 100000 in
theorem jokx_245_8 : jokl jy_245.2.2.2.1 (Nat.beq jy_245.2.2.2.2.1 2) jy_245.2.1 jy_245.2.2.2.2.2 (16 * 8) jc_245_8 = true := by decide +kernel
set_option maxRecDepth 100000 in
theorem jokx_245_9 : jokl jy_245.2.2.2.1 (Nat.beq jy_245.2.2.2.2.1 2) jy_245.2.1 jy_245.2.2.2.2.2 (16 * 9) jc_245_9 = true := by decide +kernel
set_option maxRecDepth 100000 in
theorem jokx_245_10 : jokl jy_245.2.2.2.1 (Nat.beq jy_245.2.2.2.2.1 2) jy_245.2.1 jy_245.2.2.2.2.2 (16 * 10) jc_245_10 = true := by decide +kernel
set_option maxRecDepth 100000 in
theorem jokx_245_11 : jokl jy_245.2.2.2.1 (Nat.beq jy_245.2.2.2.2.1 2) jy_245.2.1 jy_245.2.2.2.2.2 (16 * 11) jc_245_11 = true := by decide +kernel
set_option maxRecDepth 100000 in
theorem jokx_245_12 : jokl jy_245.2.2.2.1 (Nat.beq jy_245.2.2.2.2.1 2) jy_245.2.1 jy_245.2.2.2.2.2 (16 * 12) jc_245_12 = true := by decide +kernel
set_option maxRecDepth 100000 in
theorem jokx_245_13 : jokl jy_245.2.2.2.1 (Nat.beq jy_245.2.2.2.2.1 2) jy_245.2.1 jy_245.2.2.2.2.2 (16 * 13) jc_245_13 = true := by decide +kernel
set_option maxRecDepth 100000 in
theorem jokx_245_14 : jokl jy_245.2.2.2.1 (Nat.beq jy_245.2.2.2.2.1 2) jy_245.2.1 jy_245.2.2.2.2.2 (16 * 14) jc_245_14 = true := by decide +kernel
set_option maxRecDepth 100000 in
theorem jokx_245_15 : jokl jy_245.2.2.2.1 (Nat.beq jy_245.2.2.2.2.1 2) jy_245.2.1 jy_245.2.2.2.2.2 (16 * 15) jc_245_15 = true := by decide +kernel
set_option maxRecDepth 100000 in
theorem jokx_245_16 : jokl jy_245.2.2.2.1 (Nat.beq jy_245.2.2.2.2.1 2) jy_245.2.1 jy_245.2.2.2.2.2 (16 * 16) jc_245_16 = true := by decide +kernel
set_option maxRecDepth 100000 in
theorem jokx_245_17 : jokl jy_245.2.2.2.1 (Nat.beq jy_245.2.2.2.2.1 2) jy_245.2.1 jy_245.2.2.2.2.2 (16 * 17) jc_245_17 = true := by decide +kernel
set_option maxRecDepth 100000 in
theorem jokx_245_18 : jokl jy_245.2.2.2.1 (Nat.beq jy_245.2.2.2.2.1 2) jy_245.2.1 jy_245.2.2.2.2.2 (16 * 18) jc_245_18 = true := by decide +kernel
set_option maxRecDepth 100000 in
theorem jokx_245_19 : jokl jy_245.2.2.2.1 (Nat.beq jy_245.2.2.2.2.1 2) jy_245.2.1 jy_245.2.2.2.2.2 (16 * 19) jc_245_19 = true := by decide +kernel
set_option maxRecDepth 100000 in
theorem jokx_245_20 : jokl jy_245.2.2.2.1 (Nat.beq jy_245.2.2.2.2.1 2) jy_245.2.1 jy_245.2.2.2.2.2 (16 * 20) jc_245_20 = true := by decide +kernel
set_option maxRecDepth 100000 in
theorem jokx_245_21 : jokl jy_245.2.2.2.1 (Nat.beq jy_245.2.2.2.2.1 2) jy_245.2.1 jy_245.2.2.2.2.2 (16 * 21) jc_245_21 = true := by decide +kernel
set_option maxRecDepth 100000 in
theorem jokx_245_22 : jokl jy_245.2.2.2.1 (Nat.beq jy_245.2.2.2.2.1 2) jy_245.2.1 jy_245.2.2.2.2.2 (16 * 22) jc_245_22 = true := by decide +kernel
set_option maxRecDepth 100000 in
theorem jokx_245_23 : jokl jy_245.2.2.2.1 (Nat.beq jy_245.2.2.2.2.1 2) jy_245.2.1 jy_245.2.2.2.2.2 (16 * 23) jc_245_23 = true := by decide +kernel
set_option maxRecDepth 100000 in
theorem jokx_245_24 : jokl jy_245.2.2.2.1 (Nat.beq jy_245.2.2.2.2.1 2) jy_245.2.1 jy_245.2.2.2.2.2 (16 * 24) jc_245_24 = true := by decide +kernel
set_option maxRecDepth 100000 in
theorem jokx_245_25 : jokl jy_245.2.2.2.1 (Nat.beq jy_245.2.2.2.2.1 2) jy_245.2.1 jy_245.2.2.2.2.2 (16 * 25) jc_245_25 = true := by decide +kernel
set_option maxRecDepth 100000 in
theorem jokx_245_26 : jokl jy_245.2.2.2.1 (Nat.beq jy_245.2.2.2.2.1 2) jy_245.2.1 jy_245.2.2.2.2.2 (16 * 26) jc_245_26 = true := by decide +kernel
set_option maxRecDepth 100000 in
theorem jokx_245_27 : jokl jy_245.2.2.2.1 (Nat.beq jy_245.2.2.2.2.1 2) jy_245.2.1 jy_245.2.2.2.2.2 (16 * 27) jc_245_27 = true := by decide +kernel
set_option maxRecDepth 100000 in
theorem jokx_245_28 : jokl jy_245.2.2.2.1 (Nat.beq jy_245.2.2.2.2.1 2) jy_245.2.1 jy_245.2.2.2.2.2 (16 * 28) jc_245_28 = true := by decide +kernel
set_option maxRecDepth 100000 in
theorem jokx_245_29 : jokl jy_245.2.2.2.1 (Nat.beq jy_245.2.2.2.2.1 2) jy_245.2.1 jy_245.2.2.2.2.2 (16 * 29) jc_245_29 = true := by decide +kernel
set_option maxRecDepth 100000 in
theorem jokx_245_30 : jokl jy_245.2.2.2.1 (Nat.beq jy_245.2.2.2.2.1 2) jy_245.2.1 jy_245.2.2.2.2.2 (16 * 30) jc_245_30 = true := by decide +kernel
set_option maxRecDepth 100000 in
theorem jokx_245_31 : jokl jy_245.2.2.2.1 (Nat.beq jy_245.2.2.2.2.1 2) jy_245.2.1 jy_245.2.2.2.2.2 (16 * 31) jc_245_31 = true := by decide +kernel
set_option maxRecDepth 100000 in
theorem jokx_245_32 : jokl jy_245.2.2.2.1 (Nat.beq jy_245.2.2.2.2.1 2) jy_245.2.1 jy_245.2.2.2.2.2 (16 * 32) jc_245_32 = true := by decide +kernel
set_option maxRecDepth 100000 in
theorem jokx_245_33 : jokl jy_245.2.2.2.1 (Nat.beq jy_245.2.2.2.2.1 2) jy_245.2.1 jy_245.2.2.2.2.2 (16 * 33) jc_245_33 = true := by decide +kernel
set_option maxRecDepth 100000 in
theorem jokx_245_34 : jokl jy_245.2.2.2.1 (Nat.beq jy_245.2.2.2.2.1 2) jy_245.2.1 jy_245.2.2.2.2.2 (16 * 34) jc_245_34 = true := by decide +kernel
set_option maxRecDepth 100000 in
theorem jokx_245_35 : jokl jy_245.2.2.2.1 (Nat.beq jy_245.2.2.2.2.1 2) jy_245.2.1 jy_245.2.2.2.2.2 (16 * 35) jc_245_35 = true := by decide +kernel
set_option maxRecDepth 100000 in
theorem jokx_245_36 : jokl jy_245.2.2.2.1 (Nat.beq jy_245.2.2.2.2.1 2) jy_245.2.1 jy_245.2.2.2.2.2 (16 * 36) jc_245_36 = true := by decide +kernel
set_option maxRecDepth 100000 in
theorem jokx_245_37 : jokl jy_245.2.2.2.1 (Nat.beq jy_245.2.2.2.2.1 2) jy_245.2.1 jy_245.2.2.2.2.2 (16 * 37) jc_245_37 = true := by decide +kernel
set_option maxRecDepth 100000 in
theorem jokx_245_38 : jokl jy_245.2.2.2.1 (Nat.beq jy_245.2.2.2.2.1 2) jy_245.2.1 jy_245.2.2.2.2.2 (16 * 38) jc_245_38 = true := by decide +kernel
set_option maxRecDepth 100000 in
theorem jokx_245_39 : jokl jy_245.2.2.2.1 (Nat.beq jy_245.2.2.2.2.1 2) jy_245.2.1 jy_245.2.2.2.2.2 (16 * 39) jc_245_39 = true := by decide +kernel
set_option maxRecDepth 100000 in
theorem jokx_245_40 : jokl jy_245.2.2.2.1 (Nat.beq jy_245.2.2.2.2.1 2) jy_245.2.1 jy_245.2.2.2.2.2 (16 * 40) jc_245_40 = true := by decide +kernel
set_option maxRecDepth 100000 in
theorem jokx_245_41 : jokl jy_245.2.2.2.1 (Nat.beq jy_245.2.2.2.2.1 2) jy_245.2.1 jy_245.2.2.2.2.2 (16 * 41) jc_245_41 = true := by decide +kernel
set_option maxRecDepth 100000 in
theorem jokx_245_42 : jokl jy_245.2.2.2.1 (Nat.beq jy_245.2.2.2.2.1 2) jy_245.2.1 jy_245.2.2.2.2.2 (16 * 42) jc_245_42 = true := by decide +kernel
set_option maxRecDepth 100000 in
theorem jokx_245_43 : jokl jy_245.2.2.2.1 (Nat.beq jy_245.2.2.2.2.1 2) jy_245.2.1 jy_245.2.2.2.2.2 (16 * 43) jc_245_43 = true := by decide +kernel
set_option maxRecDepth 100000 in
theorem jokx_245_44 : jokl jy_245.2.2.2.1 (Nat.beq jy_245.2.2.2.2.1 2) jy_245.2.1 jy_245.2.2.2.2.2 (16 * 44) jc_245_44 = true := by decide +kernel
set_option maxRecDepth 100000 in
theorem jokx_245_45 : jokl jy_245.2.2.2.1 (Nat.beq jy_245.2.2.2.2.1 2) jy_245.2.1 jy_245.2.2.2.2.2 (16 * 45) jc_245_45 = true := by decide +kernel
set_option maxRecDepth 100000 in
theorem jokx_245_46 : jokl jy_245.2.2.2.1 (Nat.beq jy_245.2.2.2.2.1 2) jy_245.2.1 jy_245.2.2.2.2.2 (16 * 46) jc_245_46 = true := by decide +kernel
set_option maxRecDepth 100000 in
theorem jokx_245_47 : jokl jy_245.2.2.2.1 (Nat.beq jy_245.2.2.2.2.1 2) jy_245.2.1 jy_245.2.2.2.2.2 (16 * 47) jc_245_47 = true := by decide +kernel
set_option maxRecDepth 100000 in
theorem jokx_245_48 : jokl jy_245.2.2.2.1 (Nat.beq jy_245.2.2.2.2.1 2) jy_245.2.1 jy_245.2.2.2.2.2 (16 * 48) jc_245_48 = true := by decide +kernel
set_option maxRecDepth 100000 in
theorem jokx_245_49 : jokl jy_245.2.2.2.1 (Nat.beq jy_245.2.2.2.2.1 2) jy_245.2.1 jy_245.2.2.2.2.2 (16 * 49) jc_245_49 = true := by decide +kernel
set_option maxRecDepth 100000 in
theorem jokx_245_50 : jokl jy_245.2.2.2.1 (Nat.beq jy_245.2.2.2.2.1 2) jy_245.2.1 jy_245.2.2.2.2.2 (16 * 50) jc_245_50 = true := by decide +kernel
set_option maxRecDepth 100000 in
theorem jokx_245_51 : jokl jy_245.2.2.2.1 (Nat.beq jy_245.2.2.2.2.1 2) jy_245.2.1 jy_245.2.2.2.2.2 (16 * 51) jc_245_51 = true := by decide +kernel
set_option maxRecDepth 100000 in
theorem jokx_245_52 : jokl jy_245.2.2.2.1 (Nat.beq jy_245.2.2.2.2.1 2) jy_245.2.1 jy_245.2.2.2.2.2 (16 * 52) jc_245_52 = true := by decide +kernel
set_option maxRecDepth 100000 in
theorem jokx_245_53 : jokl jy_245.2.2.2.1 (Nat.beq jy_245.2.2.2.2.1 2) jy_245.2.1 jy_245.2.2.2.2.2 (16 * 53) jc_245_53 = true := by decide +kernel
set_option maxRecDepth 100000 in
theorem jokx_245_54 : jokl jy_245.2.2.2.1 (Nat.beq jy_245.2.2.2.2.1 2) jy_245.2.1 jy_245.2.2.2.2.2 (16 * 54) jc_245_54 = true := by decide +kernel
set_option maxRecDepth 100000 in
theorem jokx_245_55 : jokl jy_245.2.2.2.1 (Nat.beq jy_245.2.2.2.2.1 2) jy_245.2.1 jy_245.2.2.2.2.2 (16 * 55) jc_245_55 = true := by decide +kernel
set_option maxRecDepth 100000 in
theorem jokx_245_56 : jokl jy_245.2.2.2.1 (Nat.beq jy_245.2.2.2.2.1 2) jy_245.2.1 jy_245.2.2.2.2.2 (16 * 56) jc_245_56 = true := by decide +kernel
set_option maxRecDepth 100000 in
theorem jokx_245_57 : jokl jy_245.2.2.2.1 (Nat.beq jy_245.2.2.2.2.1 2) jy_245.2.1 jy_245.2.2.2.2.2 (16 * 57) jc_245_57 = true := by decide +kernel
set_option maxRecDepth 100000 in
theorem jokx_245_58 : jokl jy_245.2.2.2.1 (Nat.beq jy_245.2.2.2.2.1 2) jy_245.2.1 jy_245.2.2.2.2.2 (16 * 58) jc_245_58 = true := by decide +kernel
set_option maxRecDepth 100000 in
theorem jokc_245 : jokc jy_245.2.2.2.1 (Nat.beq jy_245.2.2.2.2.1 2) jy_245.2.1 jy_245.2.2.2.2.2 0 jc_245 = true := by
  show (jokl jy_245.2.2.2.1 (Nat.beq jy_245.2.2.2.2.1 2) jy_245.2.1 jy_245.2.2.2.2.2 (16 * 0) jc_245_0 && (jokl jy_245.2.2.2.1 (Nat.beq jy_245.2.2.2.2.1 2) jy_245.2.1 jy_245.2.2.2.2.2 (16 * 1) jc_245_1 && (jokl jy_245.2.2.2.1 (Nat.beq jy_245.2.2.2.2.1 2) jy_245.2.1 jy_245.2.2.2.2.2 (16 * 2) jc_245_2 && (jokl jy_245.2.2.2.1 (Nat.beq jy_245.2.2.2.2.1 2) jy_245.2.1 jy_245.2.2.2.2.2 (16 * 3) jc_245_3 && (jokl jy_245.2.2.2.1 (Nat.beq jy_245.2.2.2.2.1 2) jy_245.2.1 jy_245.2.2.2.2.2 (16 * 4) jc_245_4 && (jokl jy_245.2.2.2.1 (Nat.beq jy_245.2.2.2.2.1 2) jy_245.2.1 jy_245.2.2.2.2.2 (16 * 5) jc_245_5 && (jokl jy_245.2.2.2.1 (Nat.beq jy_245.2.2.2.2.1 2) jy_245.2.1 jy_245.2.2.2.2.2 (16 * 6) jc_245_6 && (jokl jy_245.2.2.2.1 (Nat.beq jy_245.2.2.2.2.1 2) jy_245.2.1 jy_245.2.2.2.2.2 (16 * 7) jc_245_7 && (jokl jy_245.2.2.2.1 (Nat.beq jy_245.2.2.2.2.1 2) jy_245.2.1 jy_245.2.2.2.2.2 (16 * 8) jc_245_8 && (jokl jy_245.2.2.2.1 (Nat.beq jy_245.2.2.2.2.1 2) jy_245.2.1 jy_245.2.2.2.2.2 (16 * 9) jc_245_9 && (jokl jy_245.2.2.2.1 (Nat.beq jy_245.2.2.2.2.1 2) jy_245.2.1 jy_245.2.2.2.2.2 (16 * 10) jc_245_10 && (jokl jy_245.2.2.2.1 (Nat.beq jy_245.2.2.2.2.1 2) jy_245.2.1 jy_245.2.2.2.2.2 (16 * 11) jc_245_11 && (jokl jy_245.2.2.2.1 (Nat.beq jy_245.2.2.2.2.1 2) jy_245.2.1 jy_245.2.2.2.2.2 (16 * 12) jc_245_12 && (jokl jy_245.2.2.2.1 (Nat.beq jy_245.2.2.2.2.1 2) jy_245.2.1 jy_245.2.2.2.2.2 (16 * 13) jc_245_13 && (jokl jy_245.2.2.2.1 (Nat.beq jy_245.2.2.2.2.1 2) jy_245.2.1 jy_245.2.2.2.2.2 (16 * 14) jc_245_14 && (jokl jy_245.2.2.2.1 (Nat.beq jy_245.2.2.2.2.1 2) jy_245.2.1 jy_245.2.2.2.2.2 (16 * 15) jc_245_15 && (jokl jy_245.2.2.2.1 (Nat.beq jy_245.2.2.2.2.1 2) jy_245.2.1 jy_245.2.2.2.2.2 (16 * 16) jc_245_16 && (jokl jy_245.2.2.2.1 (Nat.beq jy_245.2.2.2.2.1 2) jy_245.2.1 jy_245.2.2.2.2.2 (16 * 17) jc_245_17 && (jokl jy_245.2.2.2.1 (Nat.beq jy_245.2.2.2.2.1 2) jy_245.2.1 jy_245.2.2.2.2.2 (16 * 18) jc_245_18 && (jokl jy_245.2.2.2.1 (Nat.beq jy_245.2.2.2.2.1 2) jy_245.2.1 jy_245.2.2.2.2.2 (16 * 19) jc_245_19 && (jokl jy_245.2.2.2.1 (Nat.beq jy_245.2.2.2.2.1 2) jy_245.2.1 jy_245.2.2.2.2.2 (16 * 20) jc_245_20 && (jokl jy_245.2.2.2.1 (Nat.beq jy_245.2.2.2.2.1 2) jy_245.2.1 jy_245.2.2.2.2.2 (16 * 21) jc_245_21 && (jokl jy_245.2.2.2.1 (Nat.beq jy_245.2.2.2.2.1 2) jy_245.2.1 jy_245.2.2.2.2.2 (16 * 22) jc_245_22 && (jokl jy_245.2.2.2.1 (Nat.beq jy_245.2.2.2.2.1 2) jy_245.2.1 jy_245.2.2.2.2.2 (16 * 23) jc_245_23 && (jokl jy_245.2.2.2.1 (Nat.beq jy_245.2.2.2.2.1 2) jy_245.2.1 jy_245.2.2.2.2.2 (16 * 24) jc_245_24 && (jokl jy_245.2.2.2.1 (Nat.beq jy_245.2.2.2.2.1 2) jy_245.2.1 jy_245.2.2.2.2.2 (16 * 25) jc_245_25 && (jokl jy_245.2.2.2.1 (Nat.beq jy_245.2.2.2.2.1 2) jy_245.2.1 jy_245.2.2.2.2.2 (16 * 26) jc_245_26 && (jokl jy_245.2.2.2.1 (Nat.beq jy_245.2.2.2.2.1 2) jy_245.2.1 jy_245.2.2.2.2.2 (16 * 27) jc_245_27 && (jokl jy_245.2.2.2.1 (Nat.beq jy_245.2.2.2.2.1 2) jy_245.2.1 jy_245.2.2.2.2.2 (16 * 28) jc_245_28 && (jokl jy_245.2.2.2.1 (Nat.beq jy_245.2.2.2.2.1 2) jy_245.2.1 jy_245.2.2.2.2.2 (16 * 29) jc_245_29 && (jokl jy_245.2.2.2.1 (Nat.beq jy_245.2.2.2.2.1 2) jy_245.2.1 jy_245.2.2.2.2.2 (16 * 30) jc_245_30 && (jokl jy_245.2.2.2.1 (Nat.beq jy_245.2.2.2.2.1 2) jy_245.2.1 jy_245.2.2.2.2.2 (16 * 31) jc_245_31 && (jokl jy_245.2.2.2.1 (Nat.beq jy_245.2.2.2.2.1 2) jy_245.2.1 jy_245.2.2.2.2.2 (16 * 32) jc_245_32 && (jokl jy_245.2.2.2.1 (Nat.beq jy_245.2.2.2.2.1 2) jy_245.2.1 jy_245.2.2.2.2.2 (16 * 33) jc_245_33 && (jokl jy_245.2.2.2.1 (Nat.beq jy_245.2.2.2.2.1 2) jy_245.2.1 jy_245.2.2.2.2.2 (16 * 34) jc_245_34 && (jokl jy_245.2.2.2.1 (Nat.beq jy_245.2.2.2.2.1 2) jy_245.2.1 jy_245.2.2.2.2.2 (16 * 35) jc_245_35 && (jokl jy_245.2.2.2.1 (Nat.beq jy_245.2.2.2.2.1 2) jy_245.2.1 jy_245.2.2.2.2.2 (16 * 36) jc_245_36 && (jokl jy_245.2.2.2.1 (Nat.beq jy_245.2.2.2.2.1 2) jy_245.2.1 jy_245.2.2.2.2.2 (16 * 37) jc_245_37 && (jokl jy_245.2.2.2.1 (Nat.beq jy_245.2.2.2.2.1 2) jy_245.2.1 jy_245.2.2.2.2.2 (16 * 38) jc_245_38 && (jokl jy_245.2.2.2.1 (Nat.beq jy_245.2.2.2.2.1 2) jy_245.2.1 jy_245.2.2.2.2.2 (16 * 39) jc_245_39 && (jokl jy_245.2.2.2.1 (Nat.beq jy_245.2.2.2.2.1 2) jy_245.2.1 jy_245.2.2.2.2.2 (16 * 40) jc_245_40 && (jokl jy_245.2.2.2.1 (Nat.beq jy_245.2.2.2.2.1 2) jy_245.2.1 jy_245.2.2.2.2.2 (16 * 41) jc_245_41 && (jokl jy_245.2.2.2.1 (Nat.beq jy_245.2.2.2.2.1 2) jy_245.2.1 jy_245.2.2.2.2.2 (16 * 42) jc_245_42 && (jokl jy_245.2.2.2.1 (Nat.beq jy_245.2.2.2.2.1 2) jy_245.2.1 jy_245.2.2.2.2.2 (16 * 43) jc_245_43 && (jokl jy_245.2.2.2.1 (Nat.beq jy_245.2.2.2.2.1 2) jy_245.2.1 jy_245.2.2.2.2.2 (16 * 44) jc_245_44 && (jokl jy_245.2.2.2.1 (Nat.beq jy_245.2.2.2.2.1 2) jy_245.2.1 jy_245.2.2.2.2.2 (16 * 45) jc_245_45 && (jokl jy_245.2.2.2.1 (Nat.beq jy_245.2.2.2.2.1 2) jy_245.2.1 jy_245.2.2.2.2.2 (16 * 46) jc_245_46 && (jokl jy_245.2.2.2.1 (Nat.beq jy_245.2.2.2.2.1 2) jy_245.2.1 jy_245.2.2.2.2.2 (16 * 47) jc_245_47 && (jokl jy_245.2.2.2.1 (Nat.beq jy_245.2.2.2.2.1 2) jy_245.2.1 jy_245.2.2.2.2.2 (16 * 48) jc_245_48 && (jokl jy_245.2.2.2.1 (Nat.beq jy_245.2.2.2.2.1 2) jy_245.2.1 jy_245.2.2.2.2.2 (16 * 49) jc_245_49 && (jokl jy_245.2.2.2.1 (Nat.beq jy_245.2.2.2.2.1 2) jy_245.2.1 jy_245.2.2.2.2.2 (16 * 50) jc_245_50 && (jokl jy_245.2.2.2.1 (Nat.beq jy_245.2.2.2.2.1 2) jy_245.2.1 jy_245.2.2.2.2.2 (16 * 51) jc_245_51 && (jokl jy_245.2.2.2.1 (Nat.beq jy_245.2.2.2.2.1 2) jy_245.2.1 jy_245.2.2.2.2.2 (16 * 52) jc_245_52 && (jokl jy_245.2.2.2.1 (Nat.beq jy_245.2.2.2.2.1 2) jy_245.2.1 jy_245.2.2.2.2.2 (16 * 53) jc_245_53 && (jokl jy_245.2.2.2.1 (Nat.beq jy_245.2.2.2.2.1 2) jy_245.2.1 jy_245.2.2.2.2.2 (16 * 54) jc_245_54 && (jokl jy_245.2.2.2.1 (Nat.beq jy_245.2.2.2.2.1 2) jy_245.2.1 jy_245.2.2.2.2.2 (16 * 55) jc_245_55 && (jokl jy_245.2.2.2.1 (Nat.beq jy_245.2.2.2.2.1 2) jy_245.2.1 jy_245.2.2.2.2.2 (16 * 56) jc_245_56 && (jokl jy_245.2.2.2.1 (Nat.beq jy_245.2.2.2.2.1 2) jy_245.2.1 jy_245.2.2.2.2.2 (16 * 57) jc_245_57 && (jokl jy_245.2.2.2.1 (Nat.beq jy_245.2.2.2.2.1 2) jy_245.2.1 jy_245.2.2.2.2.2 (16 * 58) jc_245_58 && true))))))))))))))))))))))))))))))))))))))))))))))))))))))))))) = true
  simp only [Bool.and_eq_true]
  exact ⟨jokx_245_0, jokx_245_1, jokx_245_2, jokx_245_3, jokx_245_4, jokx_245_5, jokx_245_6, jokx_245_7, jokx_245_8, jokx_245_9, jokx_245_10, jokx_245_11, jokx_245_12, jokx_245_13, jokx_245_14, jokx_245_15, jokx_245_16, jokx_245_17, jokx_245_18, jokx_245_19, jokx_245_20, jokx_245_21, jokx_245_22, jokx_245_23, jokx_245_24, jokx_245_25, jokx_245_26, jokx_245_27, jokx_245_28, jokx_245_29, jokx_245_30, jokx_245_31, jokx_245_32, jokx_245_33, jokx_245_34, jokx_245_35, jokx_245_36, jokx_245_37, jokx_245_38, jokx_245_39, jokx_245_40, jokx_245_41, jokx_245_42, jokx_245_43, jokx_245_44, jokx_245_45, jokx_245_46, jokx_245_47, jokx_245_48, jokx_245_49, jokx_245_50, jokx_245_51, jokx_245_52, jokx_245_53, jokx_245_54, jokx_245_55, jokx_245_56, jokx_245_57, jokx_245_58, trivial⟩
theorem jok_245 : jMok (jc_245, 7, 0, 1, 10, 0, 2) jy_245 := ⟨by decide +kernel, by decide +kernel, rfl, jokc_245, rfl, fun h => absurd h (by decide)⟩
set_option maxRecDepth 100000 in
theorem jMo_ok : jMo_all 0 jmeth jyy := ⟨fun _ => jok_0, fun _ => jok_1, fun _ => jok_2, fun _ => jok_3, fun _ => jok_4, fun _ => jok_5, fun _ => jok_6, fun _ => jok_7, fun _ => jok_8, fun _ => jok_9, fun _ => jok_10, fun _ => jok_11, fun _ => jok_12, fun _ => jok_13, fun _ => jok_14, fun _ => jok_15, fun _ => jok_16, fun _ => jok_17, fun _ => jok_18, fun _ => jok_19, fun _ => jok_20, fun _ => jok_21, fun _ => jok_22, fun _ => jok_23, fun _ => jok_24, fun _ => jok_25, fun _ => jok_26, fun _ => jok_27, fun _ => jok_28, fun _ => jok_29, fun _ => jok_30, fun _ => jok_31, fun _ => jok_32, fun _ => jok_33, fun _ => jok_34, fun _ => jok_35, fun _ => jok_36, fun _ => jok_37, fun _ => jok_38, fun _ => jok_39, fun _ => jok_40, fun _ => jok_41, fun _ => jok_42, fun _ => jok_43, fun _ => jok_44, fun _ => jok_45, fun _ => jok_46, fun _ => jok_47, fun _ => jok_48, fun _ => jok_49, fun _ => jok_50, fun _ => jok_51, fun _ => jok_52, fun _ => jok_53, fun _ => jok_54, fun _ => jok_55, fun _ => jok_56, fun _ => jok_57, fun _ => jok_58, fun _ => jok_59, fun _ => jok_60, fun _ => jok_61, fun _ => jok_62, fun _ => jok_63, fun _ => jok_64, fun _ => jok_65, fun _ => jok_66, fun _ => jok_67, fun _ => jok_68, fun _ => jok_69, fun _ => jok_70, fun _ => jok_71, fun _ => jok_72, fun _ => jok_73, fun _ => jok_74, fun _ => jok_75, fun _ => jok_76, fun _ => jok_77, fun _ => jok_78, fun _ => jok_79, fun _ => jok_80, fun _ => jok_81, fun _ => jok_82, fun _ => jok_83, fun _ => jok_84, fun _ => jok_85, fun _ => jok_86, fun _ => jok_87, fun _ => jok_88, fun _ => jok_89, fun _ => jok_90, fun _ => jok_91, fun _ => jok_92, fun _ => jok_93, fun _ => jok_94, fun _ => jok_95, fun _ => jok_96, fun _ => jok_97, fun _ => jok_98, fun _ => jok_99, fun _ => jok_100, fun _ => jok_101, fun _ => jok_102, fun _ => jok_103, fun _ => jok_104, fun h => absurd rfl h, fun _ => jok_106, fun _ => jok_107, fun _ => jok_108, fun _ => jok_109, fun _ => jok_110, fun _ => jok_111, fun _ => jok_112, fun _ => jok_113, fun _ => jok_114, fun _ => jok_115, fun _ => jok_116, fun _ => jok_117, fun _ => jok_118, fun _ => jok_119, fun _ => jok_120, fun _ => jok_121, fun _ => jok_122, fun _ => jok_123, fun _ => jok_124, fun _ => jok_125, fun _ => jok_126, fun _ => jok_127, fun _ => jok_128, fun _ => jok_129, fun _ => jok_130, fun _ => jok_131, fun _ => jok_132, fun _ => jok_133, fun _ => jok_134, fun _ => jok_135, fun _ => jok_136, fun _ => jok_137, fun _ => jok_138, fun _ => jok_139, fun _ => jok_140, fun _ => jok_141, fun _ => jok_142, fun _ => jok_143, fun _ => jok_144, fun _ => jok_145, fun _ => jok_146, fun _ => jok_147, fun _ => jok_148, fun _ => jok_149, fun _ => jok_150, fun _ => jok_151, fun _ => jok_152, fun _ => jok_153, fun _ => jok_154, fun _ => jok_155, fun _ => jok_156, fun _ => jok_157, fun _ => jok_158, fun _ => jok_159, fun _ => jok_160, fun _ => jok_161, fun _ => jok_162, fun _ => jok_163, fun _ => jok_164, fun _ => jok_165, fun _ => jok_166, fun _ => jok_167, fun _ => jok_168, fun _ => jok_169, fun _ => jok_170, fun _ => jok_171, fun _ => jok_172, fun _ => jok_173, fun _ => jok_174, fun _ => jok_175, fun _ => jok_176, fun _ => jok_177, fun _ => jok_178, fun _ => jok_179, fun _ => jok_180, fun _ => jok_181, fun _ => jok_182, fun _ => jok_183, fun _ => jok_184, fun _ => jok_185, fun _ => jok_186, fun _ => jok_187, fun _ => jok_188, fun _ => jok_189, fun _ => jok_190, fun _ => jok_191, fun _ => jok_192, fun _ => jok_193, fun _ => jok_194, fun _ => jok_195, fun _ => jok_196, fun _ => jok_197, fun _ => jok_198, fun _ => jok_199, fun _ => jok_200, fun _ => jok_201, fun _ => jok_202, fun _ => jok_203, fun _ => jok_204, fun _ => jok_205, fun _ => jok_206, fun _ => jok_207, fun _ => jok_208, fun _ => jok_209, fun _ => jok_210, fun _ => jok_211, fun _ => jok_212, fun _ => jok_213, fun _ => jok_214, fun _ => jok_215, fun _ => jok_216, fun _ => jok_217, fun _ => jok_218, fun _ => jok_219, fun _ => jok_220, fun _ => jok_221, fun _ => jok_222, fun _ => jok_223, fun _ => jok_224, fun _ => jok_225, fun _ => jok_226, fun _ => jok_227, fun _ => jok_228, fun _ => jok_229, fun _ => jok_230, fun _ => jok_231, fun _ => jok_232, fun _ => jok_233, fun _ => jok_234, fun _ => jok_235, fun _ => jok_236, fun _ => jok_237, fun _ => jok_238, fun _ => jok_239, fun _ => jok_240, fun _ => jok_241, fun _ => jok_242, fun _ => jok_243, fun _ => jok_244, fun _ => jok_245, trivial⟩
set_option maxRecDepth 100000 in
theorem jMc_ok : jMc_all 0 jmeth jyy := ⟨fun _ => jca_0, fun _ => jca_1, fun _ => jca_2, fun _ => jca_3, fun _ => jca_4, fun _ => jca_5, fun _ => jca_6, fun _ => jca_7, fun _ => jca_8, fun _ => jca_9, fun _ => jca_10, fun _ => jca_11, fun _ => jca_12, fun _ => jca_13, fun _ => jca_14, fun _ => jca_15, fun _ => jca_16, fun _ => jca_17, fun _ => jca_18, fun _ => jca_19, fun _ => jca_20, fun _ => jca_21, fun _ => jca_22, fun _ => jca_23, fun _ => jca_24, fun _ => jca_25, fun _ => jca_26, fun _ => jca_27, fun _ => jca_28, fun _ => jca_29, fun _ => jca_30, fun _ => jca_31, fun _ => jca_32, fun _ => jca_33, fun _ => jca_34, fun _ => jca_35, fun _ => jca_36, fun _ => jca_37, fun _ => jca_38, fun _ => jca_39, fun _ => jca_40, fun _ => jca_41, fun _ => jca_42, fun _ => jca_43, fun _ => jca_44, fun _ => jca_45, fun _ => jca_46, fun _ => jca_47, fun _ => jca_48, fun _ => jca_49, fun _ => jca_50, fun _ => jca_51, fun _ => jca_52, fun _ => jca_53, fun _ => jca_54, fun _ => jca_55, fun _ => jca_56, fun _ => jca_57, fun _ => jca_58, fun _ => jca_59, fun _ => jca_60, fun _ => jca_61, fun _ => jca_62, fun _ => jca_63, fun _ => jca_64, fun _ => jca_65, fun _ => jca_66, fun _ => jca_67, fun _ => jca_68, fun _ => jca_69, fun _ => jca_70, fun _ => jca_71, fun _ => jca_72, fun _ => jca_73, fun _ => jca_74, fun _ => jca_75, fun _ => jca_76, fun _ => jca_77, fun _ => jca_78, fun _ => jca_79, fun _ => jca_80, fun _ => jca_81, fun _ => jca_82, fun _ => jca_83, fun _ => jca_84, fun _ => jca_85, fun _ => jca_86, fun _ => jca_87, fun _ => jca_88, fun _ => jca_89, fun _ => jca_90, fun _ => jca_91, fun _ => jca_92, fun _ => jca_93, fun _ => jca_94, fun _ => jca_95, fun _ => jca_96, fun _ => jca_97, fun _ => jca_98, fun _ => jca_99, fun _ => jca_100, fun _ => jca_101, fun _ => jca_102, fun _ => jca_103, fun _ => jca_104, fun _ => jca_105, fun _ => jca_106, fun _ => jca_107, fun _ => jca_108, fun _ => jca_109, fun _ => jca_110, fun _ => jca_111, fun _ => jca_112, fun _ => jca_113, fun _ => jca_114, fun _ => jca_115, fun _ => jca_116, fun _ => jca_117, fun _ => jca_118, fun _ => jca_119, fun _ => jca_120, fun _ => jca_121, fun _ => jca_122, fun _ => jca_123, fun _ => jca_124, fun _ => jca_125, fun _ => jca_126, fun _ => jca_127, fun _ => jca_128, fun _ => jca_129, fun _ => jca_130, fun _ => jca_131, fun _ => jca_132, fun _ => jca_133, fun _ => jca_134, fun _ => jca_135, fun _ => jca_136, fun _ => jca_137, fun _ => jca_138, fun _ => jca_139, fun _ => jca_140, fun _ => jca_141, fun _ => jca_142, fun _ => jca_143, fun _ => jca_144, fun _ => jca_145, fun _ => jca_146, fun _ => jca_147, fun _ => jca_148, fun _ => jca_149, fun _ => jca_150, fun _ => jca_151, fun _ => jca_152, fun _ => jca_153, fun _ => jca_154, fun _ => jca_155, fun _ => jca_156, fun _ => jca_157, fun _ => jca_158, fun _ => jca_159, fun _ => jca_160, fun _ => jca_161, fun _ => jca_162, fun _ => jca_163, fun _ => jca_164, fun _ => jca_165, fun _ => jca_166, fun _ => jca_167, fun _ => jca_168, fun _ => jca_169, fun _ => jca_170, fun _ => jca_171, fun _ => jca_172, fun _ => jca_173, fun _ => jca_174, fun _ => jca_175, fun _ => jca_176, fun _ => jca_177, fun _ => jca_178, fun _ => jca_179, fun _ => jca_180, fun _ => jca_181, fun _ => jca_182, fun _ => jca_183, fun _ => jca_184, fun _ => jca_185, fun _ => jca_186, fun _ => jca_187, fun _ => jca_188, fun _ => jca_189, fun _ => jca_190, fun _ => jca_191, fun _ => jca_192, fun _ => jca_193, fun _ => jca_194, fun _ => jca_195, fun _ => jca_196, fun _ => jca_197, fun _ => jca_198, fun _ => jca_199, fun _ => jca_200, fun _ => jca_201, fun _ => jca_202, fun _ => jca_203, fun _ => jca_204, fun _ => jca_205, fun _ => jca_206, fun _ => jca_207, fun _ => jca_208, fun _ => jca_209, fun _ => jca_210, fun _ => jca_211, fun _ => jca_212, fun _ => jca_213, fun _ => jca_214, fun _ => jca_215, fun _ => jca_216, fun _ => jca_217, fun _ => jca_218, fun _ => jca_219, fun _ => jca_220, fun _ => jca_221, fun _ => jca_222, fun _ => jca_223, fun _ => jca_224, fun _ => jca_225, fun _ => jca_226, fun _ => jca_227, fun _ => jca_228, fun _ => jca_229, fun _ => jca_230, fun _ => jca_231, fun _ => jca_232, fun _ => jca_233, fun _ => jca_234, fun _ => jca_235, fun _ => jca_236, fun _ => jca_237, fun _ => jca_238, fun _ => jca_239, fun _ => jca_240, fun _ => jca_241, fun _ => jca_242, fun _ => jca_243, fun _ => jca_244, fun h => absurd rfl h, trivial⟩
