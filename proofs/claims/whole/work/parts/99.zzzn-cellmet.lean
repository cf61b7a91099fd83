-- THE METHOD THAT THROWS: its contract
abbrev jxI : String := "java/lang/IndexOutOfBoundsException"
abbrev jxN : String := "java/util/NoSuchElementException"
abbrev jxR : String := "java/lang/RuntimeException"
abbrev jxE : String := "java/lang/Exception"
def jexn : Nat → Option String
  | 1 => some jxI
  | 2 => some jxN
  | _ => none
/-- the words of a throw that stand in no method's own list -/
def jXs : List Jvm.Cond := [.castable jxI jxI, .castable jxN jxN, .declares (Bundle.initS jxR), .declares (Bundle.initS jxE), .declares (Bundle.initS Bundle.tN)]
/-- what a throw needs of the world -/
def jWx (B sa0 sa1 : Nat) (U : State) (H : Heap) : Prop :=
  (∀ w ∈ jXs, va_Nw w U) ∧ va_Nc jxN jxI U ∧ vk_R "CrowRota" 134 "no such cell" sa0 U ∧ vk_R "CrowRota" 154 "no such what" sa1 U ∧
  vx_Zq Bundle.tN "UNASSIGNED_STACK" Bundle.steD (fun q => B ≤ q) U H ∧ vx_Zq Bundle.tN "SUPPRESSED_SENTINEL" Bundle.listD (fun q => B ≤ q) U H
theorem jXs_tab : ∀ w ∈ jXs, w.onTables = true := List.all_eq_true.mp (by decide +kernel)
theorem jXs_warm {s U : State} (hW : s.WarmedH U.vm) : ∀ w ∈ jXs, va_Nw w s → va_Nw w U := by
  intro w hw h
  unfold jXs at hw
  simp only [List.mem_cons, List.not_mem_nil, or_false] at hw
  rcases hw with rfl | rfl | rfl | rfl | rfl
  · exact va_Nw.warmC hW h
  · exact va_Nw.warmC hW h
  · exact va_Nw.warmD hW h
  · exact va_Nw.warmD hW h
  · exact va_Nw.warmD hW h
theorem jWx_to {B sa0 sa1 : Nat} {s U : State} {H : Heap} {locs : List Loc} (hW : s.WarmedH U.vm) (hS : va_S (fun q => B ≤ q) s.heap H locs) (hU : U.heap = H) (h : jWx B sa0 sa1 s s.heap) : jWx B sa0 sa1 U U.heap := by
  obtain ⟨h1, h2, h3, h4, h5, h6⟩ := h
  rw [hU]
  have hk : ∀ a : Nat, a < s.heap.size → ¬ (fun q => B ≤ q) a → H[a]? = s.heap[a]? := hS.2.1
  exact ⟨fun w hw => jXs_warm hW w hw (h1 w hw), h2.moved hW.alike, h3.warm hW, h4.warm hW, vx_Zq.moved hW.alike (h5.kept hk), vx_Zq.moved hW.alike (h6.kept hk)⟩
theorem jWx_call {B sa0 sa1 : Nat} {U : State} {H : Heap} {g : JFrame} {mk : MethodId} {a : Array Value} (h : jWx B sa0 sa1 U H) : jWx B sa0 sa1 (U.calling g mk a) H := by
  obtain ⟨h1, h2, h3, h4, h5, h6⟩ := h
  have hr : U.vm.Alike (U.calling g mk a).vm := Vm.Alike.refl U.vm
  exact ⟨fun w hw => va_Nw.same (jXs_tab w hw) (by rfl) (h1 w hw), va_Nc.moved (u := U) hr h2, vk_R.same rfl h3, vk_R.same rfl h4, vx_Zq.moved (u := U) hr h5, vx_Zq.moved (u := U) hr h6⟩
abbrev jWc (D : va_G) (cA : Nat → ClassId) (B : Nat) (EX adV : Nat → Nat) (Ln : Nat) (xs : Nat → Int32) (h : jH) (sa0 sa1 : Nat) (U : State) : Prop := jWld D cA B EX adV Ln xs h U ∧ jWx B sa0 sa1 U U.heap
theorem jWc_blind {D : va_G} {cA : Nat → ClassId} {B : Nat} {EX adV : Nat → Nat} {Ln : Nat} {xs : Nat → Int32} {h : jH} {sa0 sa1 : Nat} {as : List Value} : FrameBlind (va_Pc as (jWc D cA B EX adV Ln xs h sa0 sa1)) := by
  intro a U g mk ⟨ha, h1, h2⟩
  have hb : FrameBlind (va_Pc as (jWld D cA B EX adV Ln xs h)) := jWld_blind
  exact ⟨ha, (hb a U g mk ⟨ha, h1⟩).2, jWx_call h2⟩
def jat1 : List Jvm.Cond := (vy_own "CrowRota" 136 jxI 7 Bundle.six jxR [jxE]).filter vx_no
def jat2 : List Jvm.Cond := (vy_own "CrowRota" 156 jxN 13 prog_30_method_4_code jxR [jxE]).filter vx_no
def jatp : List Nat := [20, 1120, 1129, 1132, 1135, 1137, 1121, 1122, 32, 33, 1123, 1128, 1133, 1153, 1110, 1154, 1112, 1155, 1114, 1124, 1126, 1116, 1149, 1150, 1152, 1116]
def jatq : List Nat := [1143, 1144, 1145, 1146, 1104, 1146, 1147, 1148, 1149, 1106]
set_option maxRecDepth 100000 in
theorem jat1_eq : jat1 = (jatp ++ [1140, 1141, 1142, 1143, 1102] ++ jatq ++ [1139, 1099, 1100, 1107, 1108, 1109, 1111, 1113, 1115, 1119, 1118, 1117]).filterMap (fun i => tables_1[i]?) := by decide +kernel
set_option maxRecDepth 100000 in
theorem jat2_eq : jat2 = (jatp ++ [1179, 1180, 1181, 1143, 1102] ++ jatq ++ [1178, 1169, 1170, 1171, 1131, 1172, 1173, 1174, 1175, 1119, 1118, 1176]).filterMap (fun i => tables_1[i]?) := by decide +kernel
set_option maxRecDepth 100000 in
theorem jat1_good : jat1.all (fun w => goodWord w || decide (w ∈ jXs)) = true := by decide +kernel
set_option maxRecDepth 100000 in
theorem jat2_good : jat2.all (fun w => goodWord w || decide (w ∈ jXs)) = true := by decide +kernel
theorem jat_ok {L : List Jvm.Cond} {ps : List Nat} (he : L = ps.filterMap (fun i => tables_1[i]?)) (hg : L.all (fun w => goodWord w || decide (w ∈ jXs)) = true) {args : Array Value} {s : State} (hts : ∀ w ∈ jG, w.before args s = true) (hx : ∀ w ∈ jXs, va_Nw w s) : ∀ w ∈ L, w.before args s = true := by
  intro w hw
  have h1 := List.all_eq_true.mp hg w hw
  rw [Bool.or_eq_true, decide_eq_true_eq] at h1
  rcases h1 with h1 | h1
  · rw [he] at hw
    obtain ⟨i, -, hi⟩ := List.mem_filterMap.mp hw
    exact hts w (jGm (jT i hi) h1)
  · exact va_Nw.use (jXs_tab w h1) (hx w h1)
theorem jat_ot {L : List Jvm.Cond} (hg : L.all (fun w => goodWord w || decide (w ∈ jXs)) = true) : ∀ w ∈ L, vx_ot w = true := by
  intro w hw
  have h1 := List.all_eq_true.mp hg w hw
  rw [Bool.or_eq_true, decide_eq_true_eq] at h1
  unfold vx_ot
  rw [Bool.or_eq_true]
  rcases h1 with h1 | h1
  · exact Or.inr h1
  · exact Or.inl (jXs_tab w h1)
theorem jcons_ot {w : Jvm.Cond} {L : List Jvm.Cond} (h : vx_ot w = true) (hL : ∀ w ∈ L, vx_ot w = true) : ∀ w' ∈ w :: L, vx_ot w' = true := fun w' h' => (List.mem_cons.mp h').elim (fun e => by rw [e]; exact h) (hL w')
theorem jdc_11 : decode prog_1_method_7_code 11 = .ok (.new 132, 3) := by decide +kernel
theorem jdc_14 : decode prog_1_method_7_code 14 = .ok (.dup, 1) := by decide +kernel
theorem jdc_15 : decode prog_1_method_7_code 15 = .ok (.ldc 134, 2) := by decide +kernel
theorem jdc_17 : decode prog_1_method_7_code 17 = .ok (.invokespecial 136, 3) := by decide +kernel
theorem jdc_20 : decode prog_1_method_7_code 20 = .ok (.athrow, 1) := by decide +kernel
theorem jdc_87 : decode prog_1_method_7_code 87 = .ok (.new 152, 3) := by decide +kernel
theorem jdc_90 : decode prog_1_method_7_code 90 = .ok (.dup, 1) := by decide +kernel
theorem jdc_91 : decode prog_1_method_7_code 91 = .ok (.ldc 154, 2) := by decide +kernel
theorem jdc_93 : decode prog_1_method_7_code 93 = .ok (.invokespecial 156, 3) := by decide +kernel
theorem jdc_96 : decode prog_1_method_7_code 96 = .ok (.athrow, 1) := by decide +kernel
theorem jdn_0 : decode prog_30_method_4_code 0 = .ok (.aload_n 0, 1) := by decide +kernel
theorem jdn_1 : decode prog_30_method_4_code 1 = .ok (.aload_n 1, 1) := by decide +kernel
theorem jdn_2 : decode prog_30_method_4_code 2 = .ok (.invokespecial 13, 3) := by decide +kernel
theorem jdn_5 : decode prog_30_method_4_code 5 = .ok (.return_, 1) := by decide +kernel
theorem jfit : ∀ n ∈ jxR :: [jxE], Bundle.fit n = true := List.all_eq_true.mp (by decide +kernel)
def jQx (D : va_G) (cA : Nat → ClassId) (B : Nat) (EX : Nat → Nat) (o : jO) (h' : jH) : Array Value → State → Outcome → State → Prop :=
  va_Qi (fun y (_ : Unit) => o = .inl (some (.int y))) (fun _ t => va_P D jcls (jws cA B EX h'.1) t.heap) (fun q => B ≤ q)
def jXx (D : va_G) (cA : Nat → ClassId) (B : Nat) (EX : Nat → Nat) (o : jO) (h' : jH) : String → State → State → Prop :=
  vx_X (fun (_ : Unit) => True) (fun E _ t => (∃ c, o = .inr c ∧ jexn c = some E) ∧ va_P D jcls (jws cA B EX h'.1) t.heap) (fun q => B ≤ q)
section JCM
variable {l : Launch} {D : va_G} {cA : Nat → ClassId} {B : Nat} {EX adV : Nat → Nat} {Ln : Nat} {xs : Nat → Int32}
set_option maxRecDepth 100000 in
theorem jcell_met (hPs : jPstr l D cA B EX adV Ln xs) (hl : l.stackTraces = false) {n Dp rr sa0 sa1 : Nat} {a b : Int32} {h h' : jH} {o : jO} (hrun : jrun n Dp 105 0 (jpad (jlay [.ref rr, .int a, .int b]) 3 0) [] h = some (o, h')) :
    vx_Met l jy_105.1 (jTs jM105 jy_105) (jroom 6 Dp (h'.2.1 - h.2.1) (h'.2.2.1 - h.2.2.1)) (va_Pc ([Value.ref rr, .int a, .int b].map (jcv B EX)) (jWc D cA B EX adV Ln xs h sa0 sa1)) (jQx D cA B EX o h') (jXx D cA B EX o h') (h'.2.1 - h.2.1) (h'.2.2.1 - h.2.2.1) (fun q => B ≤ q) := by
  refine vx_ofW (cc := prog_1_method_7_code) (maxL := 3) (ret := some .int) (by decide) rfl ?_
  intro p e s m args below meth c s₁ B0 hml htab hv
  obtain ⟨rfl, ⟨hP, hK, hBs, hsz, hF, hz⟩, hX⟩ := hv
  have hx := B0.exec
  have hb := B0.bytes
  have hr := B0.returns
  have hts := atoms_spec (ws := jTs jM105 jy_105) B0.pre
  have hown : s.vm.findClass (jown.getD 10 "") = some m.cls := findClass_of_methodNamed B0.named
  have hlocks := B0.notSynchronized
  have hle := jrun_le hrun
  have hin : ∀ w ∈ jG, w.before ([Value.ref rr, .int a, .int b].map (jcv B EX)).toArray s = true := fun w hw => hts w (List.mem_cons_of_mem _ hw)
  have C0 : jC p s ([Value.ref rr, .int a, .int b].map (jcv B EX)).toArray m meth c prog_1_method_7_code 3 10 false D cA B EX adV Ln xs h.2.1 :=
    ⟨hx, hb, hml, hown, (fun h2 => nomatch h2), hin, hK, hBs, hsz, hF, hlocks⟩
  rw [lg_entry_eq]
  have hp0 : jpc jy_105.2.2.2.2.2 0 = 0 := by decide +kernel
  have hgo := jcellbody hPs n (p := p) (en := e) (R := jroom 6 Dp (h'.2.1 - h.2.1) (h'.2.2.1 - h.2.2.1)) (s := s) (m := m) (args := ([Value.ref rr, .int a, .int b].map (jcv B EX)).toArray) (below := below) (meth := meth) (c := c)
    (Q := vx_MQ below (jQx D cA B EX o h') (jXx D cA B EX o h') ([Value.ref rr, .int a, .int b].map (jcv B EX)).toArray s (h'.2.1 - h.2.1) (h'.2.2.1 - h.2.2.1) (fun q => B ≤ q)) (ns0 := h.2.2.1) hrun rfl C0 ⟨Nat.le_refl _, Nat.le_refl _⟩ ⟨by show h'.2.1 ≤ h.2.1 + (h'.2.1 - h.2.1); omega, by show h'.2.2.1 ≤ h.2.2.1 + (h'.2.2.1 - h.2.2.1); omega⟩
    (H := s.heap) (locs := []) (cells := 0) (slots := 0) hP va_S.rf (jLok.entry B EX (n2 := 0) (Nat.le_refl 3)) (Nat.zero_add _) (Nat.zero_add _) hz ?_
  · rw [hp0] at hgo
    exact hgo
  · intro pc' e' S' hh H' locs' ls' cells' slots' hfe hlv hre hP' hS' hc' hs' hz' hls
    have hf : ∀ q ∈ locs', (fun q => B ≤ q) q.base := hS'.2.2
    have hp := jok105 hfe hlv
    unfold jp105 at hp
    have hkind : jkind e' = 1 := by
      unfold jret at hre
      unfold jkind
      split at hre
      · rename_i hi; rw [hi]
      · rename_i hi; rw [hi]
      · rename_i hi; rw [hi]
      · rename_i hi; rw [hi]
      · cases hre
    rw [hkind] at hp
    rw [show Nat.beq 1 1 = true from rfl, show Nat.beq 1 0 = false from rfl] at hp
    simp only [Bool.false_and, Bool.or_false, Bool.not_true, Bool.and_false, Bool.true_and, Bool.or_eq_true, Bool.and_eq_true, decide_eq_true_eq, Nat.beq_eq_true_eq] at hp
    rcases hp with ⟨hi, hd1⟩ | ⟨hi, hw⟩
    · unfold jret at hre
      rw [hi] at hre
      dsimp only at hre
      split at hre
      · rename_i y
        have h3 := Option.some.inj hre
        have ho : (.inl (some (.int y)) : jO) = o := congrArg Prod.fst h3
        have hh' : hh = h' := congrArg Prod.snd h3
        subst ho
        have q1 : h'.2.1 = hh.2.1 := by rw [hh']
        have q2 : h'.2.2.1 = hh.2.2.1 := by rw [hh']
        have e1 : cells' = h'.2.1 - h.2.1 := by omega
        have e2 : slots' = h'.2.2.1 - h.2.2.1 := by omega
        rw [hh'] at hP'
        rw [e1, e2]
        exact vx_ret (W.iret hx hb hr (fun t ht hW => ⟨⟨y, (), rfl, rfl, by show va_P _ _ _ t.heap; rw [ht]; exact hP'⟩, hS'.F ht⟩) hf hd1)
      · cases hre
    · unfold jret at hre
      rw [hi] at hre
      dsimp only at hre
      split at hre
      · have ho : (.inr e'.2.2.1 : jO) = o ∧ ((hh.1, hh.2.1 + 1, hh.2.2.1 + 6, hh.2.2.2) : jH) = h' := by
          have h3 := Option.some.inj hre
          exact ⟨congrArg Prod.fst h3, congrArg Prod.snd h3⟩
        obtain ⟨ho, hh'⟩ := ho
        have q1 : h'.2.1 = hh.2.1 + 1 := by rw [← hh']
        have q2 : h'.2.2.1 = hh.2.2.1 + 6 := by rw [← hh']
        have q3 : h'.1 = hh.1 := by rw [← hh']
        have hc1 : cells' + 1 ≤ h'.2.1 - h.2.1 := by omega
        have hs1 : slots' + 6 ≤ h'.2.2.1 - h.2.2.1 := by omega
        have hend : ∀ {E : String} (_ : jexn e'.2.2.1 = some E) {pc : Nat} (_ : decode prog_1_method_7_code pc = .ok (.athrow, 1)) (q : Nat) (ce : Cell) (H1 : Heap), H'.size ≤ H1.size → (∀ q : Nat, q < H'.size → H1[q]? = H'[q]?) → H1[q]? = some ce → ce.vm = .none → s.vm.findClass E = some ce.cls → va_S (fun q => B ≤ q) s.heap H1 locs' →
            W p l e (jroom 6 Dp (h'.2.1 - h.2.1) (h'.2.2.1 - h.2.2.1)) s m ([Value.ref rr, .int a, .int b].map (jcv B EX)).toArray below meth c H1 locs' (cells' + 1) (slots' + 6) (vx_MQ below (jQx D cA B EX o h') (jXx D cA B EX o h') ([Value.ref rr, .int a, .int b].map (jcv B EX)).toArray s (h'.2.1 - h.2.1) (h'.2.2.1 - h.2.2.1) (fun q => B ≤ q)) (F0 m pc ls' [.ref q]) := by
          intro E hE pc hd q ce H1 hz1 hk1 hq hv hcl hS1
          refine vx_athrow hx hb hd ?_
          refine vx_out (E := E) (ce := ce) (fun x hx => (htab x hx).elim) hlocks hq hv hcl (fun t ht _ => ?_) hf hc1 hs1
          refine ⟨(), trivial, ⟨⟨e'.2.2.1, ho.symm, hE⟩, ?_⟩, hS1.F ht⟩
          rw [ht, q3]
          exact hP'.kept (fun k x hx => hk1 x.1 ((hP' k x hx).lt))
        obtain ⟨x1, x2, x3, x4, x5, x6⟩ := hX
        have z5 : vx_Zq Bundle.tN "UNASSIGNED_STACK" Bundle.steD (fun q => B ≤ q) s s.heap := x5
        have z6 : vx_Zq Bundle.tN "SUPPRESSED_SENTINEL" Bundle.listD (fun q => B ≤ q) s s.heap := x6
        have hfr : (jxR :: [jxE]).length + 3 < (jroom 6 Dp (h'.2.1 - h.2.1) (h'.2.2.1 - h.2.2.1)).frames := by
          show 2 + 3 < 6 + Dp + 10
          omega
        have hlr : (([] : List Value).map fun v => v.category).sum + (13 * ((jxR :: [jxE]).length + 1) + 43) ≤ (jroom 6 Dp (h'.2.1 - h.2.1) (h'.2.2.1 - h.2.2.1)).locals := by
          show 0 + (13 * (2 + 1) + 43) ≤ 40 * (6 + Dp) + 400
          omega
        rcases hw with ⟨w1, w2⟩ | ⟨w1, w2⟩
        · replace w1 := Nat.eq_of_beq_eq_true w1
          replace w2 := Nat.eq_of_beq_eq_true w2
          subst w1
          have hp5 : jpc jy_105.2.2.2.2.2 5 = 11 := by decide +kernel
          rw [hp5]
          refine vy_make (A := fun q => B ≤ q) (own := "CrowRota") (cls := jxI) (text := "no such cell") (ik := 132) (is := 134) (ic := 136) (ix := 7) (rx := Bundle.six) (Y0 := jxR) (r0 := [jxE]) hx hb hl Bundle.six_0 Bundle.six_1 Bundle.six_2 Bundle.six_5 hown (by decide +kernel) jfit (hin _ (jGm (jT 1098 (by decide +kernel)) rfl)) (hin _ (jGm (jT 23 (by decide +kernel)) rfl)) x3 (jat_ok jat1_eq jat1_good hin x1) (jcons_ot rfl (jcons_ot rfl (jat_ot jat1_good))) z5 z6 hS' (hls.trans hml.symm) jdc_11 jdc_14 jdc_15 jdc_17 hfr hlr hc1 hs1 ?_
          exact hend (by rw [w2]; rfl) jdc_20
        · replace w1 := Nat.eq_of_beq_eq_true w1
          replace w2 := Nat.eq_of_beq_eq_true w2
          subst w1
          have hp37 : jpc jy_105.2.2.2.2.2 37 = 87 := by decide +kernel
          rw [hp37]
          refine vy_make (A := fun q => B ≤ q) (own := "CrowRota") (cls := jxN) (text := "no such what") (ik := 152) (is := 154) (ic := 156) (ix := 13) (rx := prog_30_method_4_code) (Y0 := jxR) (r0 := [jxE]) hx hb hl jdn_0 jdn_1 jdn_2 jdn_5 hown (by decide +kernel) jfit (hin _ (jGm (jT 1168 (by decide +kernel)) rfl)) (hin _ (jGm (jT 24 (by decide +kernel)) rfl)) x4 (jat_ok jat2_eq jat2_good hin x1) (jcons_ot rfl (jcons_ot rfl (jat_ot jat2_good))) z5 z6 hS' (hls.trans hml.symm) jdc_87 jdc_90 jdc_91 jdc_93 hfr hlr hc1 hs1 ?_
          exact hend (by rw [w2]; rfl) jdc_96
      · cases hre
end JCM
