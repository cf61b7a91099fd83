-- THE WRAPPER THAT CATCHES
def jwn : MethodName := ⟨"CrowRotaLaw", "cell", "(LCrowRota;II[J)I"⟩
def jwh : List (Nat × Nat × Nat × Nat) := [(0, 10, 13, 13), (0, 10, 17, 15)]
def jwW : List Jvm.Cond := Jvm.Cond.codeWith jwn method_3_code 5 (some .int) jwh :: jG
def jwroom (Dp mc ms : Nat) : Room := { frames := 6 + Dp + 11, cells := mc, slots := ms, locals := 40 * (6 + Dp) + 430 }
theorem jdw_0 : decode method_3_code 0 = .ok (.aload_n 3, 1) := by decide +kernel
theorem jdw_1 : decode method_3_code 1 = .ok (.iconst 0, 1) := by decide +kernel
theorem jdw_2 : decode method_3_code 2 = .ok (.aload_n 0, 1) := by decide +kernel
theorem jdw_3 : decode method_3_code 3 = .ok (.iload_n 1, 1) := by decide +kernel
theorem jdw_4 : decode method_3_code 4 = .ok (.iload_n 2, 1) := by decide +kernel
theorem jdw_5 : decode method_3_code 5 = .ok (.invokevirtual 7, 3) := by decide +kernel
theorem jdw_8 : decode method_3_code 8 = .ok (.i2l, 1) := by decide +kernel
theorem jdw_9 : decode method_3_code 9 = .ok (.lastore, 1) := by decide +kernel
theorem jdw_10 : decode method_3_code 10 = .ok (.goto 11, 3) := by decide +kernel
theorem jdw_13 : decode method_3_code 13 = .ok (.astore 4, 2) := by decide +kernel
theorem jdw_15 : decode method_3_code 15 = .ok (.iconst 1, 1) := by decide +kernel
theorem jdw_16 : decode method_3_code 16 = .ok (.ireturn, 1) := by decide +kernel
theorem jdw_17 : decode method_3_code 17 = .ok (.astore 4, 2) := by decide +kernel
theorem jdw_19 : decode method_3_code 19 = .ok (.iconst 2, 1) := by decide +kernel
theorem jdw_20 : decode method_3_code 20 = .ok (.ireturn, 1) := by decide +kernel
theorem jdw_21 : decode method_3_code 21 = .ok (.iconst 0, 1) := by decide +kernel
theorem jdw_22 : decode method_3_code 22 = .ok (.ireturn, 1) := by decide +kernel
theorem vy_ofWH {l : Launch} {y : MethodName} {ws ws' : List Cond} {rm : Room} {Pc : Array Value → State → Prop} {Qc : Array Value → State → Outcome → State → Prop} {mc ms : Nat} {free : Addr → Prop} {cc : ByteArray} {maxL : Nat} {ret : Option FieldType} {hh : List (Nat × Nat × Nat × Nat)}
    (hy : plainName y.cls = true) (hw : ws = Cond.codeWith y cc maxL ret hh :: ws')
    (body : ∀ p e s m args below meth c s₁, BodyLoose p l y (headSpec ws rm) cc maxL ret e s m args below meth c s₁ → c.maxLocals = maxL → Pc args s →
      W p l e (headSpec ws rm).room s m args below meth c s.heap [] 0 0 (MQ below Qc args s mc ms free) (entryFrame m args maxL)) : Met l y ws rm Pc Qc mc ms free := by
  refine MetFree.of_bodyS (code := cc) (maxLocals := maxL) (ret := ret) hy ?_ ?_
  · intro args s m h hn
    obtain ⟨m9, meth, c, hn9, h1, h2, h3, h4, -, h5, h6, -⟩ := Cond.codeWith_spec (atoms_spec (ws := ws) h _ (by rw [hw]; exact List.mem_cons_self))
    cases hn.symm.trans hn9
    exact ⟨meth, c, h1, h2, h3, h4, h5, h6⟩
  · intro p e s m args below meth c s₁ B hml hP _
    have hh0 : s₁.heap = s.heap := by rw [B.state]; rfl
    obtain ⟨t, a1, o, b1, b2, b3⟩ := body p e s m args below meth c s₁ B hml hP s₁ hh0 (Stand.of_body B)
    exact ⟨t, o, a1, b1, b2, b3⟩
theorem jexn_cases {c : Nat} {E : String} (h : jexn c = some E) : (c = 1 ∧ E = jxI) ∨ (c = 2 ∧ E = jxN) := by
  unfold jexn at h
  split at h
  · exact Or.inl ⟨rfl, (Option.some.inj h).symm⟩
  · exact Or.inr ⟨rfl, (Option.some.inj h).symm⟩
  · cases h
theorem jcatch_cases {q : Nat} {o : jO} {h1 h' : jH} {r : Option Value} (h : jcatch (.ref q) (some (o, h1)) = some (r, h')) :
    (∃ c, o = .inr c ∧ some (.int (Int32.ofNat c)) = r ∧ h1 = h') ∨ (∃ x f, o = .inl (some (.int x)) ∧ jnth h1.1 q = some (.inl (1, 1, .inr (.inl f))) ∧ some (.int 0) = r ∧ jput h1 q (.inl (1, 1, .inr (.inl (jup f 0 x.toInt64)))) = h') := by
  cases o with
  | inr c =>
    have h2 : (some (some (.int (Int32.ofNat c)), h1) : Option (Option Value × jH)) = some (r, h') := h
    have h3 := Option.some.inj h2
    exact Or.inl ⟨c, rfl, congrArg Prod.fst h3, congrArg Prod.snd h3⟩
  | inl v =>
    cases v with
    | none =>
      have h2 : (none : Option (Option Value × jH)) = some (r, h') := h
      cases h2
    | some v =>
      cases v with
      | int x =>
        have h2 : (match (generalizing := false) jnth h1.1 q with
          | some (.inl (1, 1, .inr (.inl f))) => (some (some (.int 0), jput h1 q (.inl (1, 1, .inr (.inl (jup f 0 x.toInt64))))) : Option (Option Value × jH))
          | _ => none) = some (r, h') := h
        split at h2
        · rename_i f hq
          have h3 := Option.some.inj h2
          exact Or.inr ⟨x, f, rfl, hq, congrArg Prod.fst h3, congrArg Prod.snd h3⟩
        · cases h2
      | _ =>
        have h2 : (none : Option (Option Value × jH)) = some (r, h') := h
        cases h2
section JWR
variable {l : Launch} {D : va_G} {cA : Nat → ClassId} {B : Nat} {EX adV : Nat → Nat} {Ln : Nat} {xs : Nat → Int32}
set_option maxRecDepth 100000 in
theorem jwrap_met (hPs : jPstr l D cA B EX adV Ln xs) (hl : l.stackTraces = false) {n Dp rr q sa0 sa1 : Nat} {a b : Int32} {fs : List Value} {h h1 h' : jH} {o : jO} {r : Option Value} (hrr : jnth h.1 rr = some (.inr (10, fs))) (hrun : jrun n Dp 105 0 (jpad (jlay [.ref rr, .int a, .int b]) 3 0) [] h = some (o, h1)) (hcat : jcatch (.ref q) (some (o, h1)) = some (r, h')) :
    Met l jwn jwW (jwroom Dp (h'.2.1 - h.2.1) (h'.2.2.1 - h.2.2.1)) (va_Pc ([Value.ref rr, .int a, .int b, .ref q].map (jcv B EX)) (jWc D cA B EX adV Ln xs h sa0 sa1)) (jQc D cA B EX h' r) (h'.2.1 - h.2.1) (h'.2.2.1 - h.2.2.1) (fun q => B ≤ q) := by
  have hq2 : h'.2 = h1.2 := by
    rcases jcatch_cases hcat with ⟨c, -, -, e⟩ | ⟨x, f, -, -, -, e⟩
    · rw [← e]
    · exact (congrArg Prod.snd e).symm
  have hM : vx_Met l jy_105.1 (jTs jM105 jy_105) (jroom 6 Dp (h'.2.1 - h.2.1) (h'.2.2.1 - h.2.2.1)) (va_Pc ([Value.ref rr, .int a, .int b].map (jcv B EX)) (jWc D cA B EX adV Ln xs h sa0 sa1)) (jQx D cA B EX o h1) (jXx D cA B EX o h1) (h'.2.1 - h.2.1) (h'.2.2.1 - h.2.2.1) (fun q => B ≤ q) := by
    rw [hq2]
    exact jcell_met hPs hl hrun
  have hle := jrun_le hrun
  refine vy_ofWH (cc := method_3_code) (maxL := 5) (ret := some .int) (by decide) rfl ?_
  intro p e s m args below meth c s₁ B0 hml hv
  obtain ⟨rfl, hw0, hX⟩ := hv
  obtain ⟨hP, hK, hBs, hsz, hF, hz⟩ := id hw0
  have hx := B0.exec
  have hb := B0.bytes
  have hr := B0.returns
  have hts := atoms_spec (ws := jwW) B0.pre
  have hown : s.vm.findClass (jown.getD 14 "") = some m.cls := findClass_of_methodNamed B0.named
  have hown2 : s.vm.findClass "CrowRotaLaw" = some m.cls := hown
  have hlocks := B0.notSynchronized
  have hin : ∀ w ∈ jG, w.before ([Value.ref rr, .int a, .int b, .ref q].map (jcv B EX)).toArray s = true := fun w hw => hts w (List.mem_cons_of_mem _ hw)
  have htab : c.exceptionTable.toList = tableOf jwh := vx_table (x := jwn) B0 (hts _ List.mem_cons_self)
  have C0 : jC p s ([Value.ref rr, .int a, .int b, .ref q].map (jcv B EX)).toArray m meth c method_3_code 5 14 false D cA B EX adV Ln xs h.2.1 :=
    ⟨hx, hb, hml, hown, (fun h2 => nomatch h2), hin, hK, hBs, hsz, hF, hlocks⟩
  rw [lg_entry_eq]
  have hls0 := lv_entry ([Value.ref rr, .int a, .int b, .ref q].map (jcv B EX)) (n := 5) (by show 4 ≤ 5; decide)
  generalize (lg_sl ([Value.ref rr, .int a, .int b, .ref q].map (jcv B EX)) ++ List.replicate (5 - (lg_sl ([Value.ref rr, .int a, .int b, .ref q].map (jcv B EX))).length) Slot.unset).toArray = ls at hls0 ⊢
  have hls : lv_has ls 5 [(0, .ref (B + rr)), (1, .int a), (2, .int b), (3, .ref (B + q))] := hls0
  refine lv_aload_n hx hb jdw_0 rfl (lv_at hls 3 rfl) ?_
  refine lv_iconst (v := 0) hx hb jdw_1 rfl ?_
  refine lv_aload_n hx hb jdw_2 rfl (lv_at hls 0 rfl) ?_
  refine lv_iload_n hx hb jdw_3 rfl (lv_at hls 1 rfl) ?_
  refine lv_iload_n hx hb jdw_4 rfl (lv_at hls 2 rfl) ?_
  have hcode : Jvm.Cond.code jy_105.1 jy_105.2.1 jM105.2.1 jy_105.2.2.1 ∈ lw_tbl := jT 1097 (by decide +kernel)
  have cb := callB_of (R := jwroom Dp (h'.2.1 - h.2.1) (h'.2.2.1 - h.2.2.1)) (own := "CrowRotaLaw") (index := 7) (rm := jroom 6 Dp (h'.2.1 - h.2.1) (h'.2.2.1 - h.2.2.1)) 2 hin (jgoodTs hcode) rfl rfl rfl (hin _ (jGm (jT 1 (by decide +kernel)) rfl)) (hin _ (jGm (jT 1094 (by decide +kernel)) rfl)) ⟨by decide +kernel, by decide +kernel, by decide +kernel⟩ ⟨by show 6 + Dp + 10 + 1 ≤ 6 + Dp + 11; omega, by show 8 + (3 + 11) + (40 * (6 + Dp) + 400) ≤ 40 * (6 + Dp) + 430; omega⟩
  have hin2 : (Jvm.Cond.instanceMethod jy_105.1).before ([Value.ref rr, .int a, .int b, .ref q].map (jcv B EX)).toArray s = true := hin _ (jGm (jT 1095 (by decide +kernel)) rfl)
  have hse2 : (Jvm.Cond.selects "CrowRota" jy_105.1 jy_105.1).before ([Value.ref rr, .int a, .int b, .ref q].map (jcv B EX)).toArray s = true := hin _ (jGm (jT 1096 (by decide +kernel)) rfl)
  have hwld : ∀ U : State, U.heap = s.heap → s.WarmedH U.vm → va_Pc ([Value.ref rr, .int a, .int b].map (jcv B EX)) (jWc D cA B EX adV Ln xs h sa0 sa1) ([Value.ref rr, .int a, .int b].map (jcv B EX)).toArray U :=
    fun U hU hW => ⟨rfl, jWld_to C0 hP va_S.rf (Nat.zero_add _) hz (Nat.le_refl _) hU hW, jWx_to hW va_S.rf hU hX⟩
  have hpre : PreV s s.heap "CrowRota" (B + rr) (va_Pc ([Value.ref rr, .int a, .int b].map (jcv B EX)) (jWc D cA B EX adV Ln xs h sa0 sa1)) [.int a, .int b] :=
    ⟨jWc_blind, va_recv hK hP jCls_10.1 (jws_get hrr), hwld⟩
  have hcl : h.2.1 ≤ h1.2.1 ∧ h.2.2.1 ≤ h1.2.2.1 := ⟨hle.1, hle.2.1⟩
  refine vx_calli (A0 := fun q => B ≤ q) (H0 := s.heap) (rest := [.int 0, .ref (B + q)]) (vx_runV ⟨hx, hb, hml, hown2, hin⟩ hM ⟨cb, hin2, hse2⟩ hpre rfl rfl hls.1 rfl (by show 2 * 0 + 2 ≤ 8; omega) jdw_5 ⟨Nat.le_of_eq (Nat.zero_add _), Nat.le_of_eq (Nat.zero_add _)⟩) va_S.rf (fun _ _ h => h) (fun _ h => h) (fun _ _ h => h) ?_ ?_
  · intro E ce q9 u t H1 locs1 ht hal _ hBX hz1 hk1 hS1 hce hcv hcl1
    obtain ⟨⟨cn, ho, hE⟩, hP1⟩ := hBX
    obtain ⟨x1, x2, x3, x4, x5, x6⟩ := hX
    rw [ht] at hP1
    have hfree : ∀ z ∈ locs1, (fun q => B ≤ q) z.base := hS1.2.2
    rcases jcatch_cases hcat with ⟨c9, ho2, hr9, hh9⟩ | ⟨x9, f9, ho2, -⟩
    · have hc9 := Sum.inr.inj (ho.symm.trans ho2)
      subst hc9
      subst hr9
      subst hh9
      rcases jexn_cases hE with ⟨rfl, rfl⟩ | ⟨rfl, rfl⟩
      · refine vx_catch (own := "CrowRotaLaw") (name := jxI) hown2 [] ⟨0, 10, 13, 13⟩ [⟨0, 10, 17, 15⟩] htab (fun z hz => nomatch hz) (by decide) (by decide) (hin _ (jGm (jT 1092 (by decide +kernel)) rfl)) (va_Nw.use rfl (x1 _ (by decide +kernel))) hce hcv hcl1 ?_
        refine lv_astore hx hb jdw_13 hls (by decide) rfl (fun ls' hls' => ?_)
        refine lv_iconst (v := 1) hx hb jdw_15 rfl ?_
        refine W.widen (k := h1.2.1 - h.2.1) (n := h1.2.2.1 - h.2.2.1) (by omega) (by omega) ?_
        exact W.iret hx hb hr (fun t ht hW => ⟨⟨1, (), rfl, rfl, by show va_P _ _ _ t.heap; rw [ht]; exact hP1⟩, hS1.F ht⟩) hfree jdw_16
      · refine vx_catch (own := "CrowRotaLaw") (name := jxN) hown2 [⟨0, 10, 13, 13⟩] ⟨0, 10, 17, 15⟩ [] htab (fun z hz => ?_) (by decide) (by decide) (hin _ (jGm (jT 1093 (by decide +kernel)) rfl)) (va_Nw.use rfl (x1 _ (by decide +kernel))) hce hcv hcl1 ?_
        · rw [List.mem_singleton.mp hz]
          exact Or.inr ⟨by decide, jxI, hin _ (jGm (jT 1092 (by decide +kernel)) rfl), x2⟩
        refine lv_astore hx hb jdw_17 hls (by decide) rfl (fun ls' hls' => ?_)
        refine lv_iconst (v := 2) hx hb jdw_19 rfl ?_
        refine W.widen (k := h1.2.1 - h.2.1) (n := h1.2.2.1 - h.2.2.1) (by omega) (by omega) ?_
        exact W.iret hx hb hr (fun t ht hW => ⟨⟨2, (), rfl, rfl, by show va_P _ _ _ t.heap; rw [ht]; exact hP1⟩, hS1.F ht⟩) hfree jdw_20
    · cases ho.symm.trans ho2
  · intro y u t H1 locs1 ht hal hy hP1 hz1 hk1 hS1
    rw [ht] at hP1
    replace hy : o = .inl (some (.int y)) := hy
    rcases jcatch_cases hcat with ⟨c9, ho2, -⟩ | ⟨x9, f, ho2, hq, hr9, hh9⟩
    · cases hy.symm.trans ho2
    · have hx9 : y = x9 := Value.int.inj (Option.some.inj (Sum.inl.inj (hy.symm.trans ho2)))
      subst hx9
      subst hr9
      subst hh9
      refine lv_i2l (v := y.toInt64) hx hb jdw_8 rfl ?_
      refine va_last hx hb hK hP1 jws_D hS1 q 1 (jws_get hq) rfl (show ¬ jout (0 : Int32) 1 by decide) jdw_9 (fun H2 locs2 hP2 _ hS2 => ?_)
      have hP3 : va_P D jcls (jws cA B EX (h1.1.set q (.inl (1, 1, .inr (.inl (jup f 0 y.toInt64)))))) H2 := by
        have h9 := hP2
        rw [jce_lset 1] at h9
        exact h9
      have hfree : ∀ z ∈ locs2, (fun q => B ≤ q) z.base := hS2.2.2
      refine lv_goto (tgt := 21) hx hb jdw_10 rfl ?_
      refine lv_iconst (v := 0) hx hb jdw_21 rfl ?_
      refine W.widen (k := h1.2.1 - h.2.1) (n := h1.2.2.1 - h.2.2.1) (by show 0 + (h1.2.1 - h.2.1) ≤ _; omega) (by show 0 + (h1.2.2.1 - h.2.2.1) ≤ _; omega) ?_
      exact W.iret hx hb hr (fun t ht hW => ⟨⟨0, (), rfl, rfl, by show va_P _ _ _ t.heap; rw [ht]; exact hP3⟩, hS2.F ht⟩) hfree jdw_22
variable {p : Program} {en : Env} {R : Room} {s : State} {m : MethodId} {args : Array Value} {below : List Frame} {meth : Method} {c : Code} {Q : State → Prop} {nc0 ns0 : Nat}
set_option maxRecDepth 100000 in
theorem jPcell_ok (hPs : jPstr l D cA B EX adV Ln xs) (hl : l.stackTraces = false) {sa0 sa1 : Nat} (hX : jWx B sa0 sa1 s s.heap) (hcw : (Jvm.Cond.codeWith jwn method_3_code 5 (some .int) jwh).before args s = true) (C0 : jC p s args m meth c code 7 14 false D cA B EX adV Ln xs nc0) : jPcell p l en R s m args below meth c Q code 7 D cA B EX Ln xs nc0 ns0 := by
  intro n Dp rk pc k ls L hL hm hd hR As rest h h' r hrest hi
  replace hi : (match (generalizing := false) As with
    | [x, .int p0, .int p1, .ref out] => (bif jrecv jM105 [x, .int p0, .int p1] h && Nat.blt (6 + 1) rk && Nat.ble (jlay [x, .int p0, .int p1]).1.length 3 then jcatch (.ref out) (jrun n Dp 105 0 (jpad (jlay [x, .int p0, .int p1]) 3 0) [] h) else none)
    | _ => none : Option (Option Value × jH)) = some (r, h') := hi
  split at hi
  · rename_i x p0 p1 out
    obtain ⟨hg, hi⟩ := jbo hi
    simp only [Bool.and_eq_true] at hg
    obtain ⟨⟨hrv, hrk⟩, -⟩ := hg
    replace hrk : 7 < rk := Nat.le_of_ble_eq_true hrk
    replace hrv : (match (generalizing := false) x with
      | .ref r => (match (generalizing := false) jnth h.1 r with
        | some (.inr (d, _)) => Nat.beq 10 d
        | _ => false)
      | _ => false) = true := by
      cases x <;> exact hrv
    split at hrv
    · rename_i rr hi
      split at hrv
      · rename_i d fs hrr
        have hd10 : d = 10 := (Nat.eq_of_beq_eq_true hrv).symm
        subst hd10
        cases hrun : jrun n Dp 105 0 (jpad (jlay [.ref rr, .int p0, .int p1]) 3 0) [] h with
        | none => rw [hrun] at hi; cases hi
        | some z =>
        obtain ⟨o, h1⟩ := z
        rw [hrun] at hi
        have hM := jwrap_met hPs hl (sa0 := sa0) (sa1 := sa1) hrr hrun hi
        obtain ⟨z, hz9, hle2⟩ := jcatch_mono hi
        cases hz9
        have hle : jle h h' := (jrun_le hrun).tr hle2
        have C1 := C0
        obtain ⟨hx, hb, hml, hown, hin, hts, hK, hBs, hsz0, hF, hlk⟩ := C0
        have hlink : (Jvm.Cond.methodLink "CrowRotaLaw" k jwn).before args s = true := hts _ (jGm (jlm_ok _ hm) rfl)
        have hGw : GoodIn (Jvm.Cond.codeWith jwn method_3_code 5 (some .int) jwh :: jG) jwW := by
          intro w hw
          rcases List.mem_cons.mp hw with rfl | hw
          · exact ⟨List.mem_cons_self, good_of_word rfl⟩
          · exact ⟨List.mem_cons_of_mem _ hw, good_of_word (jGg hw)⟩
        have hts2 : ∀ w ∈ (Jvm.Cond.codeWith jwn method_3_code 5 (some .int) jwh :: jG), w.before args s = true := fun w hw => (List.mem_cons.mp hw).elim (fun e => by rw [e]; exact hcw) (hts w)
        intro H locs cells slots hP hS hc hs hz hR2 kk
        refine W.bnd (fun hsz => ?_)
        have hwld : ∀ U : State, U.heap = H → s.WarmedH U.vm → va_Pc ([Value.ref rr, .int p0, .int p1, .ref out].map (jcv B EX)) (jWc D cA B EX adV Ln xs h sa0 sa1) ([Value.ref rr, .int p0, .int p1, .ref out].map (jcv B EX)).toArray U := fun U hU hW => ⟨rfl, jWld_to C1 hP hS hc hz hsz hU hW, jWx_to hW hS hU hX⟩
        have hf : cells + (h'.2.1 - h.2.1) ≤ R.cells ∧ slots + (h'.2.2.1 - h.2.2.1) ≤ R.slots := by
          obtain ⟨l1, l2, -⟩ := hle
          have l1 : h.2.1 ≤ h'.2.1 := l1
          have l2 : h.2.2.1 ≤ h'.2.2.1 := l2
          omega
        have cw : vx_CSW R s args "CrowRotaLaw" k jwn method_3_code 5 (some .int) jwh jwW (jwroom Dp (h'.2.1 - h.2.1) (h'.2.2.1 - h.2.2.1)) (h'.2.1 - h.2.1) (h'.2.2.1 - h.2.2.1) 4 := by
          refine ⟨⟨rfl, rfl, by show 6 + Dp + 11 + 1 ≤ R.frames; omega, by show 8 + (5 + 11) + (40 * (6 + Dp) + 430) ≤ R.locals; omega, pay_in hts2 hGw, List.mem_cons_self⟩, hcw, hts _ (jGm (jT 0 (by decide +kernel)) rfl), ⟨by decide +kernel, by decide +kernel⟩, fun sig hsig => ?_, hlink, hts _ (jGm (jT 1090 (by decide +kernel)) rfl)⟩
          have h2 : (parseMethodDescriptor jwn.desc).map (fun d => d.parameters.length) = some 4 := by decide +kernel
          rw [hsig] at h2
          exact (Option.some.inj h2).symm
        have hst : (F0 m pc ls (([Value.ref rr, .int p0, .int p1, .ref out].reverse ++ rest).map (jcv B EX))).stack = ([Value.ref rr, .int p0, .int p1, .ref out].map (jcv B EX)).reverse ++ rest.map (jcv B EX) := by
          show ([Value.ref rr, .int p0, .int p1, .ref out].reverse ++ rest).map (jcv B EX) = _
          simp
        exact jfinish (vx_runSW (nL := 7) ⟨hx, hb, hml, hown, hts⟩ hM cw ⟨jWc_blind, hwld⟩ rfl rfl hL.1.1 hst (jmapL (As := []) (n := 0) hrest) hd hf) hS hle hc hs hz kk
      · cases hrv
    · cases hrv
  · cases hi
end JWR
