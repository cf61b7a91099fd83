def jG : List Jvm.Cond := lw_tbl.filter goodWord
theorem jGm {w : Jvm.Cond} (h : w ∈ lw_tbl) (hg : goodWord w = true) : w ∈ jG := List.mem_filter.mpr ⟨h, hg⟩
theorem jGg {w : Jvm.Cond} (h : w ∈ jG) : goodWord w = true := (List.mem_filter.mp h).2
theorem jZw {ws : List Jvm.Cond} (is : List Nat) (h : ws.map some = is.map (fun i => tables_1[i]?)) (hg : ws.all goodWord = true) : ∀ w ∈ ws, w ∈ jG := by
  intro w hw
  refine jGm ?_ (List.all_eq_true.mp hg w hw)
  have h1 : some w ∈ ws.map some := List.mem_map.mpr ⟨w, hw, rfl⟩
  rw [h] at h1
  obtain ⟨i, -, hi⟩ := List.mem_map.mp h1
  exact jT i hi
/-- what is needed of a class: its fields' words and types, that it can be made -/
def jCls (c : Nat) : Prop := jcls[c]? = some (jclsn c) ∧ (∀ w ∈ u_ws (jclsn c).1 (jclsn c).2.1 (jclsn c).2.2, w ∈ jG) ∧
  (∃ ty : Nat → FieldType, (∀ k, k < (jclsn c).2.2 → parseFieldDescriptor ((jclsn c).2.1 k).2.2.1 = some (ty k)) ∧ (∃ fs, jnth jdefs c = some fs ∧ (∀ j, j < (jclsn c).2.2 → defaultValue (ty j) = vp_V fs j) ∧ fs.all (fun v => match v with
    | .ref _ => false
    | .retAddr _ => false
    | _ => true) = true)) ∧
  (∀ a, a < (jclsn c).2.2 → ∀ b, b < (jclsn c).2.2 → a ≠ b → ((jclsn c).2.1 a).2.1 ≠ ((jclsn c).2.1 b).2.1) ∧ Jvm.Cond.instantiable (jclsn c).1 (jclsn c).2.2 ∈ jG ∧ Jvm.Cond.initialized (jclsn c).1 ∈ jG
set_option maxRecDepth 100000 in
theorem jCls_0 : jCls 0 := ⟨rfl, jZw [348, 350, 352, 354, 356, 358, 360] (by decide +kernel) (by decide +kernel), ⟨tyX0, tyX0_ok, _, rfl, by decide +kernel, by decide +kernel⟩, nmX0, jGm (jT 288 (by decide +kernel)) rfl, jGm (jT 11 (by decide +kernel)) rfl⟩
set_option maxRecDepth 100000 in
theorem jCls_1 : jCls 1 := ⟨rfl, jZw [174, 176, 178] (by decide +kernel) (by decide +kernel), ⟨tyX1, tyX1_ok, _, rfl, by decide +kernel, by decide +kernel⟩, nmX1, jGm (jT 165 (by decide +kernel)) rfl, jGm (jT 9 (by decide +kernel)) rfl⟩
set_option maxRecDepth 100000 in
theorem jCls_2 : jCls 2 := ⟨rfl, jZw [486, 488, 490, 492, 494] (by decide +kernel) (by decide +kernel), ⟨tyX2, tyX2_ok, _, rfl, by decide +kernel, by decide +kernel⟩, nmX2, jGm (jT 475 (by decide +kernel)) rfl, jGm (jT 16 (by decide +kernel)) rfl⟩
set_option maxRecDepth 100000 in
theorem jCls_3 : jCls 3 := ⟨rfl, jZw [461, 463, 465, 467, 469, 471] (by decide +kernel) (by decide +kernel), ⟨tyX3, tyX3_ok, _, rfl, by decide +kernel, by decide +kernel⟩, nmX3, jGm (jT 449 (by decide +kernel)) rfl, jGm (jT 15 (by decide +kernel)) rfl⟩
set_option maxRecDepth 100000 in
theorem jCls_4 : jCls 4 := ⟨rfl, jZw [248, 250, 252, 254, 256, 258, 260, 262, 264, 266, 268, 270, 272, 274, 276, 278, 280, 282, 284] (by decide +kernel) (by decide +kernel), ⟨tyX4, tyX4_ok, _, rfl, by decide +kernel, by decide +kernel⟩, nmX4, jGm (jT 158 (by decide +kernel)) rfl, jGm (jT 8 (by decide +kernel)) rfl⟩
set_option maxRecDepth 100000 in
theorem jCls_5 : jCls 5 := ⟨rfl, jZw [138, 140, 142, 144, 146, 148, 150, 152, 154] (by decide +kernel) (by decide +kernel), ⟨tyX5, tyX5_ok, _, rfl, by decide +kernel, by decide +kernel⟩, nmX5, jGm (jT 35 (by decide +kernel)) rfl, jGm (jT 2 (by decide +kernel)) rfl⟩
set_option maxRecDepth 100000 in
theorem jCls_6 : jCls 6 := ⟨rfl, jZw [405, 407, 409, 411, 413, 415, 417, 419, 421, 423, 425] (by decide +kernel) (by decide +kernel), ⟨tyX6, tyX6_ok, _, rfl, by decide +kernel, by decide +kernel⟩, nmX6, jGm (jT 365 (by decide +kernel)) rfl, jGm (jT 13 (by decide +kernel)) rfl⟩
set_option maxRecDepth 100000 in
theorem jCls_7 : jCls 7 := ⟨rfl, jZw [439, 441, 443, 445] (by decide +kernel) (by decide +kernel), ⟨tyX7, tyX7_ok, _, rfl, by decide +kernel, by decide +kernel⟩, nmX7, jGm (jT 429 (by decide +kernel)) rfl, jGm (jT 14 (by decide +kernel)) rfl⟩
set_option maxRecDepth 100000 in
theorem jCls_8 : jCls 8 := ⟨rfl, jZw [109, 111, 113, 115, 117, 119, 121] (by decide +kernel) (by decide +kernel), ⟨tyX8, tyX8_ok, _, rfl, by decide +kernel, by decide +kernel⟩, nmX8, jGm (jT 41 (by decide +kernel)) rfl, jGm (jT 3 (by decide +kernel)) rfl⟩
set_option maxRecDepth 100000 in
theorem jCls_9 : jCls 9 := ⟨rfl, jZw [322, 324, 326, 328, 330, 332, 334, 336] (by decide +kernel) (by decide +kernel), ⟨tyX9, tyX9_ok, _, rfl, by decide +kernel, by decide +kernel⟩, nmX9, jGm (jT 294 (by decide +kernel)) rfl, jGm (jT 12 (by decide +kernel)) rfl⟩
set_option maxRecDepth 100000 in
theorem jCls_10 : jCls 10 := ⟨rfl, jZw [526, 528, 530, 532, 534, 536, 538, 540, 542, 544, 546, 548, 550] (by decide +kernel) (by decide +kernel), ⟨tyX10, tyX10_ok, _, rfl, by decide +kernel, by decide +kernel⟩, nmX10, jGm (jT 27 (by decide +kernel)) rfl, jGm (jT 1 (by decide +kernel)) rfl⟩
set_option maxRecDepth 100000 in
theorem jCls_11 : jCls 11 := ⟨rfl, jZw [1269, 1271, 1273, 1275, 1277, 1279, 1281, 1283, 1285, 1287, 1289, 1291, 1293, 1295, 1297, 1299, 1301, 1303, 1305, 1307, 1309, 1311, 1313, 1315, 1317, 1319, 1321, 1323, 1325, 1327, 1329, 1331, 1333, 1335, 1337, 1339, 1341, 1343, 1345, 1347, 1349, 1351, 1353, 1355, 1357, 1359, 1361, 1363, 1365, 1367, 1369, 1371, 1373, 1375, 1377, 1379, 1381, 1383, 1385, 1387, 1389, 1391, 1393, 1395, 1397, 1399, 1401] (by decide +kernel) (by decide +kernel), ⟨tyX11, tyX11_ok, _, rfl, by decide +kernel, by decide +kernel⟩, nmX11, jGm (jT 1185 (by decide +kernel)) rfl, jGm (jT 18 (by decide +kernel)) rfl⟩
theorem jCls_all {c : Nat} (h : c < 12) : jCls c := by
  match c, h with
  | 0, _ => exact jCls_0
  | 1, _ => exact jCls_1
  | 2, _ => exact jCls_2
  | 3, _ => exact jCls_3
  | 4, _ => exact jCls_4
  | 5, _ => exact jCls_5
  | 6, _ => exact jCls_6
  | 7, _ => exact jCls_7
  | 8, _ => exact jCls_8
  | 9, _ => exact jCls_9
  | 10, _ => exact jCls_10
  | 11, _ => exact jCls_11
  | n + 12, h => omega
