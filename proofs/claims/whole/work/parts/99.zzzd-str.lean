-- THE TEXTS: String's own methods on the two constants
def jSW (EX adV : Nat → Nat) (U : State) : Prop := vk_S 2 jlen2 jbyt2 (fun i => EX (i + 1)) adV (fun _ => False) U U.heap ∧ va_Z "java/lang/String" "COMPACT_STRINGS" "Z" (.int 1) (fun _ => False) U U.heap ∧ va_Zq "jdk/internal/util/Preconditions" "SIOOBE_FORMATTER" "Ljava/util/function/BiFunction;" (fun _ => False) U U.heap
def ys_coder : MethodName := ⟨"java/lang/String", "coder", "()B"⟩
def ys_length : MethodName := ⟨"java/lang/String", "length", "()I"⟩
def ys_isLatin1 : MethodName := ⟨"java/lang/String", "isLatin1", "()Z"⟩
def ys_charAt : MethodName := ⟨"java/lang/String", "charAt", "(I)C"⟩
def ys_charAtL : MethodName := ⟨"java/lang/StringLatin1", "charAt", "([BI)C"⟩
def ys_check : MethodName := ⟨"java/lang/String", "checkIndex", "(II)V"⟩
def ys_checkP : MethodName := ⟨"jdk/internal/util/Preconditions", "checkIndex", "(IILjava/util/function/BiFunction;)I"⟩
def jws_y (y : MethodName) (b : ByteArray) (n : Nat) (r : Option FieldType) : List Jvm.Cond := .code y b n r :: jG
theorem jG_in {y : MethodName} {b : ByteArray} {n : Nat} {r : Option FieldType} {w : Jvm.Cond} (i : Nat) (h : tables_1[i]? = some w) (hg : goodWord w = true) : w ∈ jws_y y b n r := List.mem_cons_of_mem _ (jGm (jT i h) hg)
set_option maxRecDepth 100000 in
theorem cs_coder (l : Launch) {EX adV : Nat → Nat} {i : Nat} (hi : i < 2) : Met l ys_coder (jws_y ys_coder prog_22_method_152_code 1 (some .byte)) ({ frames := 1, cells := 0, slots := 0, locals := 12 }) (va_Pc [.ref (EX (i + 1))] (jSW EX adV)) (va_Qi (fun r (_ : Unit) => r = 0) (fun _ _ => True) (fun _ => False)) 0 0 (fun _ => False) := by
  refine Met.ofW (cc := prog_22_method_152_code) (maxL := 1) (ret := some .byte) (by decide) rfl ?_
  intro p e s m args below meth c s₁ B hml hv
  obtain ⟨rfl, hE, hZ, hZq⟩ := hv
  have hx := B.exec
  have hb := B.bytes
  have hr := B.returns
  have hts := atoms_spec (ws := jws_y ys_coder prog_22_method_152_code 1 (some .byte)) B.pre
  have hown : s.vm.findClass "java/lang/String" = some m.cls := findClass_of_methodNamed B.named
  have hlocks := B.notSynchronized
  have hS : va_S (fun _ => False) s.heap s.heap [] := va_S.rf
  have hl := lv_entry ([.ref (EX (i + 1))]) (n := 1) (Nat.le_of_ble_eq_true rfl)
  rw [lg_entry_eq]
  generalize (lg_sl ([.ref (EX (i + 1))]) ++ List.replicate (1 - (lg_sl ([.ref (EX (i + 1))])).length) Slot.unset).toArray = ls at hl ⊢
  have hl : lv_has ls 1 [(0, .ref (EX (i + 1)))] := hl
  refine va_gets hx hb hZ hS hown (hts _ (jG_in 55 (by decide +kernel) rfl)) (fun _ h => h) (show decode prog_22_method_152_code 0 = .ok (.getstatic 38, 3) by decide +kernel) ?_
  refine lv_if_eq hx hb (off := 10) (tgt := 13) (show decode prog_22_method_152_code 3 = .ok (.ifCond .eq 10, 3) by decide +kernel) (by decide) (fun h => absurd h (by decide)) (fun _ => ?_)
  refine lv_aload_n hx hb (show decode prog_22_method_152_code 6 = .ok (.aload_n 0, 1) by decide +kernel) rfl (lv_at hl 0 rfl) ?_
  refine vk_getf hx hb (hE.1 i hi).2.1 hS hown (hts _ (jG_in 1835 (by decide +kernel) rfl)) (fun _ h => h) (show decode prog_22_method_152_code 7 = .ok (.getfield 15, 3) by decide +kernel) ?_
  refine lv_goto hx hb (off := 4) (tgt := 14) (show decode prog_22_method_152_code 10 = .ok (.goto 4, 3) by decide +kernel) (by decide) ?_
  exact W.zret hx hb hr (by decide) (fun t ht hW => ⟨⟨0, (), rfl, rfl, trivial⟩, hS.F ht⟩) hS.2.2 (show decode prog_22_method_152_code 14 = .ok (.ireturn, 1) by decide +kernel)
