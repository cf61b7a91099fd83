-- THE TEXTS: String's own methods on the two constants
def jSW (EX adV : Nat → Nat) (U : State) : Prop := vk_S 2 jlen2 jbyt2 (fun i => EX (i + 1)) adV (fun _ => False) U U.heap ∧ va_Z "java/lang/String" "COMPACT_STRINGS" "Z" (.int 1) (fun _ => False) U U.heap ∧ va_Zq "jdk/internal/util/Preconditions" "SIOOBE_FORMATTER" "Ljava/util/function/BiFunction;" (fun _ => False) U U.heap
def ys_coder : MethodName := ⟨"java/lang/String", "coder", "()B"⟩
def ys_length : MethodName := ⟨"java/lang/String", "length", "()I"⟩
def ys_isLatin1 : MethodName := ⟨"java/lang/String", "isLatin1", "()Z"⟩
def ys_charAt : MethodName := ⟨"java/lang/String", "charAt", "(I)C"⟩
def ys_charAtL : MethodName := ⟨"java/lang/StringLatin1", "charAt", "([BI)C"⟩
def ys_check : MethodName := ⟨"java/lang/String", "checkIndex", "(II)V"⟩
def ys_checkP : MethodName := ⟨"jdk/internal/util/Preconditions", "checkIndex", "(IILjava/util/function/BiFunction;)I"⟩
def jws_y (y : MethodName) (b : ByteArray) (n : Nat) (r : Option FieldType) : List Jvm.Cond := .code y b n r :: jG
theorem jG_in {y : MethodName} {b : ByteArray} {n : Nat} {r : Option FieldType} {w : Jvm.Cond} (i : Nat) (h : tables_1[i]? = some w) (hg : goodWord w = true) : w ∈ jws_y y b n r := List.mem_cons_of_mem _ (jGm (jT i h) hg)
set_option maxRecDepth 100000 in
theorem cs_coder (l : Launch) {EX adV : Nat → Nat} {i : Nat} (hi : i < 2) : Met l ys_coder (jws_y ys_coder prog_22_method_152_code 1 (some .byte)) ({ frames := 1, cells := 0, slots := 0, locals := 12 }) (va_Pc [.ref (EX (i + 1))] (jSW EX adV)) (va_Qi (fun r (_ : Unit) => r = 0) (fun _ _ => True) (fun _ => False)) 0 0 (fun _ => False) := by
  refine Met.ofW (cc := prog_22_method_152_code) (maxL := 1) (ret := some .byte) (by decide) rfl ?_
  intro p e s m args below meth c s₁ B hml hv
  obtain ⟨rfl, hE, hZ, hZq⟩ := hv
  have hx := B.exec
  have hb := B.bytes
  have hr := B.returns
  have hts := atoms_spec (ws := jws_y ys_coder prog_22_method_152_code 1 (some .byte)) B.pre
  have hown : s.vm.findClass "java/lang/String" = some m.cls := findClass_of_methodNamed B.named
  have hlocks := B.notSynchronized
  have hS : va_S (fun _ => False) s.heap s.heap [] := va_S.rf
  have hl := lv_entry ([.ref (EX (i + 1))]) (n := 1) (Nat.le_of_ble_eq_true rfl)
  rw [lg_entry_eq]
  generalize (lg_sl ([.ref (EX (i + 1))]) ++ List.replicate (1 - (lg_sl ([.ref (EX (i + 1))])).length) Slot.unset).toArray = ls at hl ⊢
  have hl : lv_has ls 1 [(0, .ref (EX (i + 1)))] := hl
  refine va_gets hx hb hZ hS hown (hts _ (jG_in 55 (by decide +kernel) rfl)) (fun _ h => h) (show decode prog_22_method_152_code 0 = .ok (.getstatic 38, 3) by decide +kernel) ?_
  refine lv_if_eq hx hb (off := 10) (tgt := 13) (show decode prog_22_method_152_code 3 = .ok (.ifCond .eq 10, 3) by decide +kernel) (by decide) (fun h => absurd h (by decide)) (fun _ => ?_)
  refine lv_aload_n hx hb (show decode prog_22_method_152_code 6 = .ok (.aload_n 0, 1) by decide +kernel) rfl (lv_at hl 0 rfl) ?_
  refine vk_getf hx hb (hE.1 i hi).2.1 hS hown (hts _ (jG_in 1835 (by decide +kernel) rfl)) (fun _ h => h) (show decode prog_22_method_152_code 7 = .ok (.getfield 15, 3) by decide +kernel) ?_
  refine lv_goto hx hb (off := 4) (tgt := 14) (show decode prog_22_method_152_code 10 = .ok (.goto 4, 3) by decide +kernel) (by decide) ?_
  exact W.zret hx hb hr (by decide) (fun t ht hW => ⟨⟨0, (), rfl, rfl, trivial⟩, hS.F ht⟩) hS.2.2 (show decode prog_22_method_152_code 14 = .ok (.ireturn, 1) by decide +kernel)
theorem jgoodS {y : MethodName} {b : ByteArray} {n : Nat} {r : Option FieldType} (i : Nat) (h : tables_1[i]? = some (.code y b n r)) : GoodIn jG (jws_y y b n r) := by
  intro w hw
  rcases List.mem_cons.mp hw with rfl | hw
  · exact ⟨jGm (jT i h) rfl, good_of_word rfl⟩
  · exact ⟨hw, good_of_word (jGg hw)⟩
theorem jSW_to {EX adV : Nat → Nat} {s U : State} {H : Heap} {locs : List Loc} (hE : vk_S 2 jlen2 jbyt2 (fun i => EX (i + 1)) adV (fun _ => False) s s.heap) (hZ : va_Z "java/lang/String" "COMPACT_STRINGS" "Z" (.int 1) (fun _ => False) s s.heap) (hZq : va_Zq "jdk/internal/util/Preconditions" "SIOOBE_FORMATTER" "Ljava/util/function/BiFunction;" (fun _ => False) s s.heap) (hS : va_S (fun _ => False) s.heap H locs) (hU : U.heap = H) (hW : s.WarmedH U.vm) : jSW EX adV U := by
  unfold jSW
  rw [hU]
  exact ⟨(hE.moved hW.alike).kept hS.2.1, (hZ.moved hW.alike).kept hS.2.1, (hZq.moved hW.alike).kept hS.2.1⟩
theorem jSW_blind {EX adV : Nat → Nat} {av : List Value} : FrameBlind (va_Pc av (jSW EX adV)) := fun a U g mk q => by
  obtain ⟨q0, q1, q2, q3⟩ := q
  exact ⟨q0, q1.moved (u := U) (U := U.calling g mk a) (Vm.Alike.refl U.vm), q2.moved (u := U) (U := U.calling g mk a) (Vm.Alike.refl U.vm), q3.moved (u := U) (U := U.calling g mk a) (Vm.Alike.refl U.vm)⟩
theorem jsh0 {x : Int32} : x >>> ((0 : Int32) &&& 31) = x := by
  rw [show ((0 : Int32) &&& 31) = 0 by decide]
  simp
set_option maxRecDepth 100000 in
theorem cs_length (l : Launch) {EX adV : Nat → Nat} {i : Nat} (hi : i < 2) : Met l ys_length (jws_y ys_length prog_22_method_54_code 1 (some .int)) ({ frames := 2, cells := 0, slots := 0, locals := 40 }) (va_Pc [.ref (EX (i + 1))] (jSW EX adV)) (va_Qi (fun r (_ : Unit) => r = Int32.ofNat (jlen2.getD i 0)) (fun _ _ => True) (fun _ => False)) 0 0 (fun _ => False) := by
  refine Met.ofW (cc := prog_22_method_54_code) (maxL := 1) (ret := some .int) (by decide) rfl ?_
  intro p e s m args below meth c s₁ B hml hv
  obtain ⟨rfl, hE, hZ, hZq⟩ := hv
  have hx := B.exec
  have hb := B.bytes
  have hr := B.returns
  have hts := atoms_spec (ws := jws_y ys_length prog_22_method_54_code 1 (some .int)) B.pre
  have hts2 : ∀ w ∈ jG, w.before #[Value.ref (EX (i + 1))] s = true := fun w hw => hts w (List.mem_cons_of_mem _ hw)
  have hown : s.vm.findClass "java/lang/String" = some m.cls := findClass_of_methodNamed B.named
  have hlocks := B.notSynchronized
  have hS : va_S (fun _ => False) s.heap s.heap [] := va_S.rf
  have hl := lv_entry ([.ref (EX (i + 1))]) (n := 1) (Nat.le_of_ble_eq_true rfl)
  rw [lg_entry_eq]
  generalize (lg_sl ([.ref (EX (i + 1))]) ++ List.replicate (1 - (lg_sl ([.ref (EX (i + 1))])).length) Slot.unset).toArray = ls at hl ⊢
  have hl : lv_has ls 1 [(0, .ref (EX (i + 1)))] := hl
  refine lv_aload_n hx hb (show decode prog_22_method_54_code 0 = .ok (.aload_n 0, 1) by decide +kernel) rfl (lv_at hl 0 rfl) ?_
  refine vk_getf hx hb (hE.1 i hi).2.2.1 hS hown (hts _ (jG_in 1834 (by decide +kernel) rfl)) (fun _ h => h) (show decode prog_22_method_54_code 1 = .ok (.getfield 9, 3) by decide +kernel) ?_
  refine va_tlen hx hb (hE.1 i hi).2.2.2 hS rfl (show decode prog_22_method_54_code 4 = .ok (.arraylength, 1) by decide +kernel) ?_
  refine lv_aload_n hx hb (show decode prog_22_method_54_code 5 = .ok (.aload_n 0, 1) by decide +kernel) rfl (lv_at hl 0 rfl) ?_
  have cb := callB_of (s := s) (args := #[Value.ref (EX (i + 1))]) (R := { frames := 2, cells := 0, slots := 0, locals := 40 }) (own := "java/lang/String") (index := 335) (y := ys_coder) (bytes := prog_22_method_152_code) (maxL := 1) (ret := some .byte) (rm := { frames := 1, cells := 0, slots := 0, locals := 12 }) (mc := 0) (ms := 0) 0 hts2 (jgoodS 54 (by decide +kernel)) rfl rfl rfl (hts2 _ (jGm (jT 4 (by decide +kernel)) rfl)) (hts2 _ (jGm (jT 51 (by decide +kernel)) rfl)) ⟨by decide, by decide, by decide +kernel⟩ ⟨Nat.le_of_ble_eq_true rfl, Nat.le_of_ble_eq_true rfl⟩
  refine va_calli (va_runV (C := "java/lang/String") (b := EX (i + 1)) (As := []) (rest := [.int (Int32.ofNat (jlen2.getD i 0))]) ⟨hx, hb, hml, hown, hts2⟩ (cs_coder l (EX := EX) (adV := adV) hi) ⟨cb, hts2 _ (jGm (jT 52 (by decide +kernel)) rfl), hts2 _ (jGm (jT 53 (by decide +kernel)) rfl)⟩ ⟨jSW_blind, vk_recv (i := i) (adK := fun i => EX (i + 1)) hE hi hS, fun U hU hW => ⟨rfl, jSW_to hE hZ hZq hS hU hW⟩⟩ rfl rfl hl.1 rfl (Nat.le_of_ble_eq_true rfl) (show decode prog_22_method_54_code 6 = .ok (.invokevirtual 335, 3) by decide +kernel) ⟨Nat.le_refl _, Nat.le_refl _⟩) hS (fun _ _ h => h) (fun _ h => h) (fun r u t H1 locs1 ht hvm hw hB hz1 hk1 hS1 => ?_)
  have hw : r = 0 := hw
  subst hw
  refine lv_ishr hx hb (show decode prog_22_method_54_code 9 = .ok (.ishr, 1) by decide +kernel) ?_
  exact W.iret hx hb hr (fun t ht hW => ⟨⟨_, (), rfl, jsh0, trivial⟩, hS1.F ht⟩) hS1.2.2 (show decode prog_22_method_54_code 10 = .ok (.ireturn, 1) by decide +kernel)
