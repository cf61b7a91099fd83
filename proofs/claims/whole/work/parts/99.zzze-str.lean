-- THE TEXTS: charAt (printed by genstr.py)
set_option maxRecDepth 100000 in
theorem cs_isLatin1 (l : Launch) {EX adV : Nat → Nat} {i : Nat} (hi : i < 2) : Met l ys_isLatin1 (jws_y ys_isLatin1 prog_22_method_154_code 1 (some .boolean)) ({ frames := 1, cells := 0, slots := 0, locals := 12 }) (va_Pc [.ref (EX (i + 1))] (jSW EX adV)) (va_Qi (fun r (_ : Unit) => r = 1) (fun _ _ => True) (fun _ => False)) 0 0 (fun _ => False) := by
  refine Met.ofW (cc := prog_22_method_154_code) (maxL := 1) (ret := (some .boolean)) (by decide) rfl ?_
  intro p e s m args below meth c s₁ B hml hv
  obtain ⟨rfl, hE, hZ, hZq⟩ := hv
  have hx := B.exec
  have hb := B.bytes
  have hr := B.returns
  have hts := atoms_spec (ws := jws_y ys_isLatin1 prog_22_method_154_code 1 (some .boolean)) B.pre
  have hts2 : ∀ w ∈ jG, w.before [.ref (EX (i + 1))].toArray s = true := fun w hw => hts w (List.mem_cons_of_mem _ hw)
  have hown : s.vm.findClass ys_isLatin1.cls = some m.cls := findClass_of_methodNamed B.named
  have hlocks := B.notSynchronized
  have hS : va_S (fun _ => False) s.heap s.heap [] := va_S.rf
  have hl := lv_entry ([.ref (EX (i + 1))]) (n := 1) (Nat.le_of_ble_eq_true rfl)
  rw [lg_entry_eq]
  generalize (lg_sl ([.ref (EX (i + 1))]) ++ List.replicate (1 - (lg_sl ([.ref (EX (i + 1))])).length) Slot.unset).toArray = ls at hl ⊢
  have hl : lv_has ls 1 [(0, .ref (EX (i + 1)))] := hl
  refine va_gets hx hb hZ hS hown (hts _ (jG_in 55 (by decide +kernel) rfl)) (fun _ h => h) (show decode prog_22_method_154_code 0 = .ok (.getstatic 38, 3) by decide +kernel) ?_
  refine lv_if_eq hx hb (off := 14) (tgt := 17) (show decode prog_22_method_154_code 3 = .ok (.ifCond .eq 14, 3) by decide +kernel) (by decide) (fun h => absurd h (by decide)) (fun _ => ?_)
  refine lv_aload_n hx hb (show decode prog_22_method_154_code 6 = .ok (.aload_n 0, 1) by decide +kernel) rfl (lv_at hl 0 rfl) ?_
  refine vk_getf hx hb (hE.1 i hi).2.1 hS hown (hts _ (jG_in 1835 (by decide +kernel) rfl)) (fun _ h => h) (show decode prog_22_method_154_code 7 = .ok (.getfield 15, 3) by decide +kernel) ?_
  refine lv_if_ne hx hb (off := 7) (tgt := 17) (show decode prog_22_method_154_code 10 = .ok (.ifCond .ne 7, 3) by decide +kernel) (by decide) (fun h => absurd rfl h) (fun _ => ?_)
  refine lv_iconst hx hb (v := 1) (show decode prog_22_method_154_code 13 = .ok (.iconst 1, 1) by decide +kernel) rfl ?_
  refine lv_goto hx hb (off := 4) (tgt := 18) (show decode prog_22_method_154_code 14 = .ok (.goto 4, 3) by decide +kernel) (by decide) ?_
  exact W.zret hx hb hr (by decide) (fun t ht hW => ⟨⟨1, (), rfl, rfl, trivial⟩, hS.F ht⟩) hS.2.2 (show decode prog_22_method_154_code 18 = .ok (.ireturn, 1) by decide +kernel)
set_option maxRecDepth 100000 in
theorem cs_checkP0 (l : Launch) {a b : Int32} (h0 : ¬ a < 0) (hab : a < b) : Met l ys_checkP (jws_y ys_checkP prog_31_method_11_code 3 (some .int)) ({ frames := 1, cells := 0, slots := 0, locals := 12 }) (va_Pc [.int a, .int b, .null] (fun _ => True)) (va_Qi (fun r (_ : Unit) => r = a) (fun _ _ => True) (fun _ => False)) 0 0 (fun _ => False) := by
  refine Met.ofW (cc := prog_31_method_11_code) (maxL := 3) (ret := (some .int)) (by decide) rfl ?_
  intro p e s m args below meth c s₁ B hml hv
  obtain ⟨rfl, -⟩ := hv
  have hx := B.exec
  have hb := B.bytes
  have hr := B.returns
  have hts := atoms_spec (ws := jws_y ys_checkP prog_31_method_11_code 3 (some .int)) B.pre
  have hts2 : ∀ w ∈ jG, w.before [.int a, .int b, .null].toArray s = true := fun w hw => hts w (List.mem_cons_of_mem _ hw)
  have hown : s.vm.findClass ys_checkP.cls = some m.cls := findClass_of_methodNamed B.named
  have hlocks := B.notSynchronized
  have hS : va_S (fun _ => False) s.heap s.heap [] := va_S.rf
  have hl := lv_entry ([.int a, .int b, .null]) (n := 3) (Nat.le_of_ble_eq_true rfl)
  rw [lg_entry_eq]
  generalize (lg_sl ([.int a, .int b, .null]) ++ List.replicate (3 - (lg_sl ([.int a, .int b, .null])).length) Slot.unset).toArray = ls at hl ⊢
  have hl : lv_has ls 3 [(0, .int a), (1, .int b), (2, .null)] := hl
  refine lv_iload_n hx hb (show decode prog_31_method_11_code 0 = .ok (.iload_n 0, 1) by decide +kernel) rfl (lv_at hl 0 rfl) ?_
  refine lv_if_lt hx hb (off := 8) (tgt := 9) (show decode prog_31_method_11_code 1 = .ok (.ifCond .lt 8, 3) by decide +kernel) (by decide) (fun h => absurd h h0) (fun _ => ?_)
  refine lv_iload_n hx hb (show decode prog_31_method_11_code 4 = .ok (.iload_n 0, 1) by decide +kernel) rfl (lv_at hl 0 rfl) ?_
  refine lv_iload_n hx hb (show decode prog_31_method_11_code 5 = .ok (.iload_n 1, 1) by decide +kernel) rfl (lv_at hl 1 rfl) ?_
  refine lv_icmp_lt hx hb (off := 10) (tgt := 16) (show decode prog_31_method_11_code 6 = .ok (.if_icmp .lt 10, 3) by decide +kernel) (by decide) (fun _ => ?_) (fun h => absurd hab h)
  refine lv_iload_n hx hb (show decode prog_31_method_11_code 16 = .ok (.iload_n 0, 1) by decide +kernel) rfl (lv_at hl 0 rfl) ?_
  exact W.iret hx hb hr (fun t ht hW => ⟨⟨a, (), rfl, rfl, trivial⟩, hS.F ht⟩) hS.2.2 (show decode prog_31_method_11_code 17 = .ok (.ireturn, 1) by decide +kernel)
set_option maxRecDepth 100000 in
theorem cs_checkP1 (l : Launch) {a b : Int32} {q : Nat} (h0 : ¬ a < 0) (hab : a < b) : Met l ys_checkP (jws_y ys_checkP prog_31_method_11_code 3 (some .int)) ({ frames := 1, cells := 0, slots := 0, locals := 12 }) (va_Pc [.int a, .int b, .ref q] (fun _ => True)) (va_Qi (fun r (_ : Unit) => r = a) (fun _ _ => True) (fun _ => False)) 0 0 (fun _ => False) := by
  refine Met.ofW (cc := prog_31_method_11_code) (maxL := 3) (ret := (some .int)) (by decide) rfl ?_
  intro p e s m args below meth c s₁ B hml hv
  obtain ⟨rfl, -⟩ := hv
  have hx := B.exec
  have hb := B.bytes
  have hr := B.returns
  have hts := atoms_spec (ws := jws_y ys_checkP prog_31_method_11_code 3 (some .int)) B.pre
  have hts2 : ∀ w ∈ jG, w.before [.int a, .int b, .ref q].toArray s = true := fun w hw => hts w (List.mem_cons_of_mem _ hw)
  have hown : s.vm.findClass ys_checkP.cls = some m.cls := findClass_of_methodNamed B.named
  have hlocks := B.notSynchronized
  have hS : va_S (fun _ => False) s.heap s.heap [] := va_S.rf
  have hl := lv_entry ([.int a, .int b, .ref q]) (n := 3) (Nat.le_of_ble_eq_true rfl)
  rw [lg_entry_eq]
  generalize (lg_sl ([.int a, .int b, .ref q]) ++ List.replicate (3 - (lg_sl ([.int a, .int b, .ref q])).length) Slot.unset).toArray = ls at hl ⊢
  have hl : lv_has ls 3 [(0, .int a), (1, .int b), (2, .ref q)] := hl
  refine lv_iload_n hx hb (show decode prog_31_method_11_code 0 = .ok (.iload_n 0, 1) by decide +kernel) rfl (lv_at hl 0 rfl) ?_
  refine lv_if_lt hx hb (off := 8) (tgt := 9) (show decode prog_31_method_11_code 1 = .ok (.ifCond .lt 8, 3) by decide +kernel) (by decide) (fun h => absurd h h0) (fun _ => ?_)
  refine lv_iload_n hx hb (show decode prog_31_method_11_code 4 = .ok (.iload_n 0, 1) by decide +kernel) rfl (lv_at hl 0 rfl) ?_
  refine lv_iload_n hx hb (show decode prog_31_method_11_code 5 = .ok (.iload_n 1, 1) by decide +kernel) rfl (lv_at hl 1 rfl) ?_
  refine lv_icmp_lt hx hb (off := 10) (tgt := 16) (show decode prog_31_method_11_code 6 = .ok (.if_icmp .lt 10, 3) by decide +kernel) (by decide) (fun _ => ?_) (fun h => absurd hab h)
  refine lv_iload_n hx hb (show decode prog_31_method_11_code 16 = .ok (.iload_n 0, 1) by decide +kernel) rfl (lv_at hl 0 rfl) ?_
  exact W.iret hx hb hr (fun t ht hW => ⟨⟨a, (), rfl, rfl, trivial⟩, hS.F ht⟩) hS.2.2 (show decode prog_31_method_11_code 17 = .ok (.ireturn, 1) by decide +kernel)
set_option maxRecDepth 100000 in
theorem cs_check (l : Launch) {EX adV : Nat → Nat} {a b : Int32} (h0 : ¬ a < 0) (hab : a < b) : Met l ys_check (jws_y ys_check prog_22_method_155_code 2 none) ({ frames := 2, cells := 0, slots := 0, locals := 40 }) (va_Pc [.int a, .int b] (jSW EX adV)) (va_Qv (fun (_ : Unit) => True) (fun _ _ => True) (fun _ => False)) 0 0 (fun _ => False) := by
  refine Met.ofW (cc := prog_22_method_155_code) (maxL := 2) (ret := none) (by decide) rfl ?_
  intro p e s m args below meth c s₁ B hml hv
  obtain ⟨rfl, hE, hZ, hZq⟩ := hv
  have hx := B.exec
  have hb := B.bytes
  have hr := B.returns
  have hts := atoms_spec (ws := jws_y ys_check prog_22_method_155_code 2 none) B.pre
  have hts2 : ∀ w ∈ jG, w.before [.int a, .int b].toArray s = true := fun w hw => hts w (List.mem_cons_of_mem _ hw)
  have hown : s.vm.findClass ys_check.cls = some m.cls := findClass_of_methodNamed B.named
  have hlocks := B.notSynchronized
  have hS : va_S (fun _ => False) s.heap s.heap [] := va_S.rf
  have hl := lv_entry ([.int a, .int b]) (n := 2) (Nat.le_of_ble_eq_true rfl)
  rw [lg_entry_eq]
  generalize (lg_sl ([.int a, .int b]) ++ List.replicate (2 - (lg_sl ([.int a, .int b])).length) Slot.unset).toArray = ls at hl ⊢
  have hl : lv_has ls 2 [(0, .int a), (1, .int b)] := hl
  refine lv_iload_n hx hb (show decode prog_22_method_155_code 0 = .ok (.iload_n 0, 1) by decide +kernel) rfl (lv_at hl 0 rfl) ?_
  refine lv_iload_n hx hb (show decode prog_22_method_155_code 1 = .ok (.iload_n 1, 1) by decide +kernel) rfl (lv_at hl 1 rfl) ?_
  have cb := callB_of (s := s) (args := [.int a, .int b].toArray) (R := { frames := 2, cells := 0, slots := 0, locals := 40 }) (own := "java/lang/String") (index := 1059) (y := ys_checkP) (bytes := prog_31_method_11_code) (maxL := 3) (ret := (some .int)) (rm := { frames := 1, cells := 0, slots := 0, locals := 12 }) (mc := 0) (ms := 0) 3 hts2 (jgoodS 75 (by decide +kernel)) rfl rfl rfl (hts2 _ (jGm (jT 6 (by decide +kernel)) rfl)) (hts2 _ (jGm (jT 73 (by decide +kernel)) rfl)) ⟨by decide, by decide, by decide +kernel⟩ ⟨Nat.le_of_ble_eq_true rfl, Nat.le_of_ble_eq_true rfl⟩
  rcases hZq with hq | ⟨q, hq⟩
  · refine va_gets hx hb hq hS hown (hts _ (jG_in 71 (by decide +kernel) rfl)) (fun _ h => h) (show decode prog_22_method_155_code 2 = .ok (.getstatic 1053, 3) by decide +kernel) ?_
    refine va_calli (va_runS (As := [.int a, .int b, .null]) (rest := []) ⟨hx, hb, hml, hown, hts2⟩ (cs_checkP0 l h0 hab) ⟨cb, hts2 _ (jGm (jT 74 (by decide +kernel)) rfl)⟩ ⟨fun _ _ _ _ q => q, fun U hU hW => ⟨rfl, trivial⟩⟩ rfl rfl hl.1 rfl (Nat.le_of_ble_eq_true rfl) (show decode prog_22_method_155_code 5 = .ok (.invokestatic 1059, 3) by decide +kernel) ⟨Nat.le_refl _, Nat.le_refl _⟩) hS (fun _ _ h => h) (fun _ h => h) (fun r u t H1 locs1 ht hvm hw hB hz1 hk1 hS1 => ?_)
    refine lv_pop hx hb (show decode prog_22_method_155_code 8 = .ok (.pop, 1) by decide +kernel) rfl ?_
    exact W.vret hx hb hr (fun t ht hW => ⟨⟨(), rfl, trivial, trivial⟩, hS1.F ht⟩) hS1.2.2 (show decode prog_22_method_155_code 9 = .ok (.return_, 1) by decide +kernel)
  · refine va_gets hx hb hq hS hown (hts _ (jG_in 71 (by decide +kernel) rfl)) (fun _ h => h) (show decode prog_22_method_155_code 2 = .ok (.getstatic 1053, 3) by decide +kernel) ?_
    refine va_calli (va_runS (As := [.int a, .int b, .ref q]) (rest := []) ⟨hx, hb, hml, hown, hts2⟩ (cs_checkP1 l (q := q) h0 hab) ⟨cb, hts2 _ (jGm (jT 74 (by decide +kernel)) rfl)⟩ ⟨fun _ _ _ _ q => q, fun U hU hW => ⟨rfl, trivial⟩⟩ rfl rfl hl.1 rfl (Nat.le_of_ble_eq_true rfl) (show decode prog_22_method_155_code 5 = .ok (.invokestatic 1059, 3) by decide +kernel) ⟨Nat.le_refl _, Nat.le_refl _⟩) hS (fun _ _ h => h) (fun _ h => h) (fun r u t H1 locs1 ht hvm hw hB hz1 hk1 hS1 => ?_)
    refine lv_pop hx hb (show decode prog_22_method_155_code 8 = .ok (.pop, 1) by decide +kernel) rfl ?_
    exact W.vret hx hb hr (fun t ht hW => ⟨⟨(), rfl, trivial, trivial⟩, hS1.F ht⟩) hS1.2.2 (show decode prog_22_method_155_code 9 = .ok (.return_, 1) by decide +kernel)
def jch2 (i k : Nat) : Int32 := ((((jbyt2.getD i []).getD k 0) &&& 255).toUInt32 % 65536).toInt32
theorem jch2_ok : ∀ i, i < 2 → ∀ k, k < jlen2.getD i 0 → jch2 i k = Int32.ofNat ((jstrs.getD (i + 1) []).getD k 0) ∧ narrow .char (.int (jch2 i k)) = .int (jch2 i k) := by decide +kernel
theorem jlen2_lt : ∀ i, i < 2 → jlen2.getD i 0 < 200 := by decide +kernel
theorem jvp_in {k n : Nat} (h : k < n) (hn : n < 2147483648) : vp_in (Int32.ofNat k) n := fun q => jout_n h (by omega) q
set_option maxRecDepth 100000 in
theorem cs_charAtL (l : Launch) {EX adV : Nat → Nat} {i k : Nat} (hi : i < 2) (hk : k < jlen2.getD i 0) : Met l ys_charAtL (jws_y ys_charAtL prog_23_method_2_code 2 (some .char)) ({ frames := 3, cells := 0, slots := 0, locals := 80 }) (va_Pc [.ref (adV i), .int (Int32.ofNat k)] (jSW EX adV)) (va_Qi (fun r (_ : Unit) => r = jch2 i k) (fun _ _ => True) (fun _ => False)) 0 0 (fun _ => False) := by
  refine Met.ofW (cc := prog_23_method_2_code) (maxL := 2) (ret := (some .char)) (by decide) rfl ?_
  intro p e s m args below meth c s₁ B hml hv
  obtain ⟨rfl, hE, hZ, hZq⟩ := hv
  have hx := B.exec
  have hb := B.bytes
  have hr := B.returns
  have hts := atoms_spec (ws := jws_y ys_charAtL prog_23_method_2_code 2 (some .char)) B.pre
  have hts2 : ∀ w ∈ jG, w.before [.ref (adV i), .int (Int32.ofNat k)].toArray s = true := fun w hw => hts w (List.mem_cons_of_mem _ hw)
  have hown : s.vm.findClass ys_charAtL.cls = some m.cls := findClass_of_methodNamed B.named
  have hlocks := B.notSynchronized
  have hS : va_S (fun _ => False) s.heap s.heap [] := va_S.rf
  have hl := lv_entry ([.ref (adV i), .int (Int32.ofNat k)]) (n := 2) (Nat.le_of_ble_eq_true rfl)
  rw [lg_entry_eq]
  generalize (lg_sl ([.ref (adV i), .int (Int32.ofNat k)]) ++ List.replicate (2 - (lg_sl ([.ref (adV i), .int (Int32.ofNat k)])).length) Slot.unset).toArray = ls at hl ⊢
  have hl : lv_has ls 2 [(0, .ref (adV i)), (1, .int (Int32.ofNat k))] := hl
  have hlen := jlen2_lt i hi
  refine lv_iload_n hx hb (show decode prog_23_method_2_code 0 = .ok (.iload_n 1, 1) by decide +kernel) rfl (lv_at hl 1 rfl) ?_
  refine lv_aload_n hx hb (show decode prog_23_method_2_code 1 = .ok (.aload_n 0, 1) by decide +kernel) rfl (lv_at hl 0 rfl) ?_
  refine va_tlen hx hb (hE.1 i hi).2.2.2 hS rfl (show decode prog_23_method_2_code 2 = .ok (.arraylength, 1) by decide +kernel) ?_
  have cb := callB_of (s := s) (args := [.ref (adV i), .int (Int32.ofNat k)].toArray) (R := { frames := 3, cells := 0, slots := 0, locals := 80 }) (own := "java/lang/StringLatin1") (index := 9) (y := ys_check) (bytes := prog_22_method_155_code) (maxL := 2) (ret := none) (rm := { frames := 2, cells := 0, slots := 0, locals := 40 }) (mc := 0) (ms := 0) 2 hts2 (jgoodS 70 (by decide +kernel)) rfl rfl rfl (hts2 _ (jGm (jT 4 (by decide +kernel)) rfl)) (hts2 _ (jGm (jT 68 (by decide +kernel)) rfl)) ⟨by decide, by decide, by decide +kernel⟩ ⟨Nat.le_of_ble_eq_true rfl, Nat.le_of_ble_eq_true rfl⟩
  refine va_callv (va_runS (As := [.int (Int32.ofNat k), .int (Int32.ofNat (jlen2.getD i 0))]) (rest := []) ⟨hx, hb, hml, hown, hts2⟩ (cs_check l (EX := EX) (adV := adV) (jnonneg (by omega)) (jlt_t hk (by omega))) ⟨cb, hts2 _ (jGm (jT 69 (by decide +kernel)) rfl)⟩ ⟨jSW_blind, fun U hU hW => ⟨rfl, jSW_to hE hZ hZq hS hU hW⟩⟩ rfl rfl hl.1 rfl (Nat.le_of_ble_eq_true rfl) (show decode prog_23_method_2_code 3 = .ok (.invokestatic 9, 3) by decide +kernel) ⟨Nat.le_refl _, Nat.le_refl _⟩) hS (fun _ _ h => h) (fun _ h => h) (fun u t H1 locs1 ht hvm hw hB hz1 hk1 hS1 => ?_)
  refine lv_aload_n hx hb (show decode prog_23_method_2_code 6 = .ok (.aload_n 0, 1) by decide +kernel) rfl (lv_at hl 0 rfl) ?_
  refine lv_iload_n hx hb (show decode prog_23_method_2_code 7 = .ok (.iload_n 1, 1) by decide +kernel) rfl (lv_at hl 1 rfl) ?_
  refine va_tb hx hb (hE.1 i hi).2.2.2 hS1 (jvp_in hk (by omega)) (v := .int ((jbyt2.getD i []).getD k 0)) (by rw [jclamp (by omega)]) (show decode prog_23_method_2_code 8 = .ok (.baload, 1) by decide +kernel) ?_
  refine lv_sipush hx hb (v := 255) (show decode prog_23_method_2_code 9 = .ok (.sipush 255, 3) by decide +kernel) rfl ?_
  refine lv_iand hx hb (show decode prog_23_method_2_code 12 = .ok (.iand, 1) by decide +kernel) ?_
  refine lv_i2c hx hb (show decode prog_23_method_2_code 13 = .ok (.i2c, 1) by decide +kernel) (v := jch2 i k) rfl ?_
  exact W.zret hx hb hr (jch2_ok i hi k hk).2 (fun t ht hW => ⟨⟨_, (), rfl, rfl, trivial⟩, hS1.F ht⟩) hS1.2.2 (show decode prog_23_method_2_code 14 = .ok (.ireturn, 1) by decide +kernel)
set_option maxRecDepth 100000 in
theorem cs_charAt (l : Launch) {EX adV : Nat → Nat} {i k : Nat} (hi : i < 2) (hk : k < jlen2.getD i 0) : Met l ys_charAt (jws_y ys_charAt prog_22_method_56_code 2 (some .char)) ({ frames := 4, cells := 0, slots := 0, locals := 120 }) (va_Pc [.ref (EX (i + 1)), .int (Int32.ofNat k)] (jSW EX adV)) (va_Qi (fun r (_ : Unit) => r = jch2 i k) (fun _ _ => True) (fun _ => False)) 0 0 (fun _ => False) := by
  refine Met.ofW (cc := prog_22_method_56_code) (maxL := 2) (ret := (some .char)) (by decide) rfl ?_
  intro p e s m args below meth c s₁ B hml hv
  obtain ⟨rfl, hE, hZ, hZq⟩ := hv
  have hx := B.exec
  have hb := B.bytes
  have hr := B.returns
  have hts := atoms_spec (ws := jws_y ys_charAt prog_22_method_56_code 2 (some .char)) B.pre
  have hts2 : ∀ w ∈ jG, w.before [.ref (EX (i + 1)), .int (Int32.ofNat k)].toArray s = true := fun w hw => hts w (List.mem_cons_of_mem _ hw)
  have hown : s.vm.findClass ys_charAt.cls = some m.cls := findClass_of_methodNamed B.named
  have hlocks := B.notSynchronized
  have hS : va_S (fun _ => False) s.heap s.heap [] := va_S.rf
  have hl := lv_entry ([.ref (EX (i + 1)), .int (Int32.ofNat k)]) (n := 2) (Nat.le_of_ble_eq_true rfl)
  rw [lg_entry_eq]
  generalize (lg_sl ([.ref (EX (i + 1)), .int (Int32.ofNat k)]) ++ List.replicate (2 - (lg_sl ([.ref (EX (i + 1)), .int (Int32.ofNat k)])).length) Slot.unset).toArray = ls at hl ⊢
  have hl : lv_has ls 2 [(0, .ref (EX (i + 1))), (1, .int (Int32.ofNat k))] := hl
  refine lv_aload_n hx hb (show decode prog_22_method_56_code 0 = .ok (.aload_n 0, 1) by decide +kernel) rfl (lv_at hl 0 rfl) ?_
  have cb := callB_of (s := s) (args := [.ref (EX (i + 1)), .int (Int32.ofNat k)].toArray) (R := { frames := 4, cells := 0, slots := 0, locals := 120 }) (own := "java/lang/String") (index := 492) (y := ys_isLatin1) (bytes := prog_22_method_154_code) (maxL := 1) (ret := (some .boolean)) (rm := { frames := 1, cells := 0, slots := 0, locals := 12 }) (mc := 0) (ms := 0) 0 hts2 (jgoodS 64 (by decide +kernel)) rfl rfl rfl (hts2 _ (jGm (jT 4 (by decide +kernel)) rfl)) (hts2 _ (jGm (jT 61 (by decide +kernel)) rfl)) ⟨by decide, by decide, by decide +kernel⟩ ⟨Nat.le_of_ble_eq_true rfl, Nat.le_of_ble_eq_true rfl⟩
  refine va_calli (va_runV (C := "java/lang/String") (b := EX (i + 1)) (As := []) (rest := []) ⟨hx, hb, hml, hown, hts2⟩ (cs_isLatin1 l (EX := EX) (adV := adV) hi) ⟨cb, hts2 _ (jGm (jT 62 (by decide +kernel)) rfl), hts2 _ (jGm (jT 63 (by decide +kernel)) rfl)⟩ ⟨jSW_blind, vk_recv (i := i) (adK := fun i => EX (i + 1)) hE hi hS, fun U hU hW => ⟨rfl, jSW_to hE hZ hZq hS hU hW⟩⟩ rfl rfl hl.1 rfl (Nat.le_of_ble_eq_true rfl) (show decode prog_22_method_56_code 1 = .ok (.invokevirtual 492, 3) by decide +kernel) ⟨Nat.le_refl _, Nat.le_refl _⟩) hS (fun _ _ h => h) (fun _ h => h) (fun r u t H1 locs1 ht hvm hw hB hz1 hk1 hS1 => ?_)
  have hw : r = 1 := hw
  subst hw
  refine lv_if_eq hx hb (off := 12) (tgt := 16) (show decode prog_22_method_56_code 4 = .ok (.ifCond .eq 12, 3) by decide +kernel) (by decide) (fun h => absurd h (by decide)) (fun _ => ?_)
  refine lv_aload_n hx hb (show decode prog_22_method_56_code 7 = .ok (.aload_n 0, 1) by decide +kernel) rfl (lv_at hl 0 rfl) ?_
  refine vk_getf hx hb (hE.1 i hi).2.2.1 hS1 hown (hts _ (jG_in 1834 (by decide +kernel) rfl)) (fun _ h => h) (show decode prog_22_method_56_code 8 = .ok (.getfield 9, 3) by decide +kernel) ?_
  refine lv_iload_n hx hb (show decode prog_22_method_56_code 11 = .ok (.iload_n 1, 1) by decide +kernel) rfl (lv_at hl 1 rfl) ?_
  have cb2 := callB_of (s := s) (args := [.ref (EX (i + 1)), .int (Int32.ofNat k)].toArray) (R := { frames := 4, cells := 0, slots := 0, locals := 120 }) (own := "java/lang/String") (index := 495) (y := ys_charAtL) (bytes := prog_23_method_2_code) (maxL := 2) (ret := (some .char)) (rm := { frames := 3, cells := 0, slots := 0, locals := 80 }) (mc := 0) (ms := 0) 2 hts2 (jgoodS 67 (by decide +kernel)) rfl rfl rfl (hts2 _ (jGm (jT 5 (by decide +kernel)) rfl)) (hts2 _ (jGm (jT 65 (by decide +kernel)) rfl)) ⟨by decide, by decide, by decide +kernel⟩ ⟨Nat.le_of_ble_eq_true rfl, Nat.le_of_ble_eq_true rfl⟩
  refine va_calli (va_runS (As := [.ref (adV i), .int (Int32.ofNat k)]) (rest := []) ⟨hx, hb, hml, hown, hts2⟩ (cs_charAtL l (EX := EX) (adV := adV) hi hk) ⟨cb2, hts2 _ (jGm (jT 66 (by decide +kernel)) rfl)⟩ ⟨jSW_blind, fun U hU hW => ⟨rfl, jSW_to hE hZ hZq hS1 hU hW⟩⟩ rfl rfl hl.1 rfl (Nat.le_of_ble_eq_true rfl) (show decode prog_22_method_56_code 12 = .ok (.invokestatic 495, 3) by decide +kernel) ⟨Nat.le_refl _, Nat.le_refl _⟩) hS1 (fun _ _ h => h) (fun _ h => h) (fun r2 u2 t2 H2 locs2 ht2 hvm2 hw2 hB2 hz2 hk2 hS2 => ?_)
  have hw2 : r2 = jch2 i k := hw2
  subst hw2
  exact W.zret hx hb hr (jch2_ok i hi k hk).2 (fun t ht hW => ⟨⟨_, (), rfl, rfl, trivial⟩, hS2.F ht⟩) hS2.2.2 (show decode prog_22_method_56_code 15 = .ok (.ireturn, 1) by decide +kernel)
