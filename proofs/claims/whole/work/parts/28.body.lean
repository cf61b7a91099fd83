-- A BODY's RUN
theorem jdep_spec {Dp rk rk2 D2 : Nat} (h : jdep Dp rk rk2 = some D2) : rk2 + D2 + 1 ≤ rk + Dp := by
  unfold jdep at h
  cases h1 : Nat.blt rk2 rk with
  | true =>
    rw [h1, cond_true] at h
    have h2 : rk2 < rk := Nat.le_of_ble_eq_true h1
    cases h
    omega
  | false =>
    rw [h1, cond_false] at h
    cases h3 : Nat.beq rk2 rk with
    | true =>
      rw [h3, cond_true] at h
      have h4 := Nat.eq_of_beq_eq_true h3
      split at h
      · cases h
      · cases h
        omega
    | false =>
      rw [h3, cond_false] at h
      cases h
section JBO
variable {p : Program} {l : Launch} {en : Env} {R : Room} {s : State} {m : MethodId} {args : Array Value} {below : List Frame} {meth : Method} {c : Code} {Q : State → Prop}
variable {cc : ByteArray} {nL own : Nat} {isI : Bool} {D : va_G} {cA : Nat → ClassId} {B : Nat} {EX adV : Nat → Nat} {Ln : Nat} {xs : Nat → Int32} {nc0 ns0 : Nat}
theorem jfinish {H : Heap} {locs : List Loc} {cells slots pc : Nat} {ls : Array Slot} {rest : List Value} {h h' : jH} {r : Option Value} {st0 : List Value} {aa : Array Value}
    (hr : va_Run p l en R s m args below meth c H locs cells slots (h'.2.1 - h.2.1) (h'.2.2.1 - h.2.2.1) (F0 m pc ls st0) (rest.map (jcv B EX)) (jQc D cA B EX h' r aa) (fun q => B ≤ q)) (hS : va_S (fun q => B ≤ q) s.heap H locs) (hle : jle h h')
    (hc : cells + nc0 = h.2.1) (hs : slots + ns0 = h.2.2.1) (hz : h.2.2.2 = (Ln, xs))
    (kk : ∀ (H' : Heap) (locs' : List Loc) (cells' slots' : Nat), va_P D jcls (jws cA B EX h'.1) H' → va_S (fun q => B ≤ q) s.heap H' locs' → cells' + nc0 = h'.2.1 → slots' + ns0 = h'.2.2.1 → h'.2.2.2 = (Ln, xs) → W p l en R s m args below meth c H' locs' cells' slots' Q (F0 m (pc + 3) ls ((r.toList ++ rest).map (jcv B EX)))) :
    W p l en R s m args below meth c H locs cells slots Q (F0 m pc ls st0) := by
  obtain ⟨l1, l2, l3⟩ := hle
  have bad : (∀ (a0 : State) (b0 : Outcome) (c0 : State), ¬ jQc D cA B EX h' r aa a0 b0 c0) → W p l en R s m args below meth c H locs cells slots Q (F0 m pc ls st0) := by
    intro hf T hT X
    obtain ⟨v, st₀, t, T', L, -, -, -, -, -, hq, -⟩ := hr T hT X
    exact absurd hq (hf _ _ _)
  match r, hr, bad, kk with
  | none, hr, _, kk =>
    exact va_callv (a := aa) hr hS (fun _ _ h => h) (fun _ h => h) (fun u t H1 locs1 ht _ _ hB _ _ hS1 => kk H1 locs1 _ _ (by rw [← ht]; exact hB) hS1 (by omega) (by omega) (l3.trans hz))
  | some (.int x), hr, _, kk =>
    refine va_calli (a := aa) hr hS (fun _ _ h => h) (fun _ h => h) (fun y u t H1 locs1 ht _ hy hB _ _ hS1 => ?_)
    have hy : y = x := hy
    subst hy
    exact kk H1 locs1 _ _ (by rw [← ht]; exact hB) hS1 (by omega) (by omega) (l3.trans hz)
  | some (.long x), hr, _, kk =>
    refine va_calll (a := aa) hr hS (fun _ _ h => h) (fun _ h => h) (fun y u t H1 locs1 ht _ hy hB _ _ hS1 => ?_)
    have hy : y = x := hy
    subst hy
    exact kk H1 locs1 _ _ (by rw [← ht]; exact hB) hS1 (by omega) (by omega) (l3.trans hz)
  | some (.float x), _, bad, _ => exact bad (fun _ _ _ h => h)
  | some (.double x), _, bad, _ => exact bad (fun _ _ _ h => h)
  | some .null, _, bad, _ => exact bad (fun _ _ _ h => h)
  | some (.ref x), _, bad, _ => exact bad (fun _ _ _ h => h)
  | some (.retAddr x), _, bad, _ => exact bad (fun _ _ _ h => h)
theorem jinv_own {rec : Nat → Nat → Nat → jL → List Value → jH → Option (jO × jH)} {Dp rk a : Nat} {As : List Value} {h h' : jH} {r : Option Value} (ha : a < 1000) (hi : jinv rec Dp rk a As h = some (r, h')) :
    ∃ M2 D2, jnth jmeth a = some M2 ∧ M2.2.2.2.1 = As.length ∧ jrecv M2 As h = true ∧ (jlay As).1.length ≤ M2.2.1 ∧ jdep Dp rk M2.2.2.2.2.1 = some D2 ∧ rec D2 a 0 (jpad (jlay As) M2.2.1 M2.2.2.1) [] h = some (.inl r, h') := by
  unfold jinv at hi
  have hb : Nat.blt a 1000 = true := Nat.ble_eq_true_of_le ha
  simp only [hb, cond_true] at hi
  split at hi
  · cases hi
  · rename_i M2 hM2
    obtain ⟨hg, hi⟩ := jbo hi
    simp only [Bool.and_eq_true] at hg
    obtain ⟨⟨g1, g2⟩, g3⟩ := hg
    split at hi
    · cases hi
    · rename_i D2 hD2
      split at hi
      · rename_i r2 h2 hrec
        cases hi
        exact ⟨M2, D2, hM2, Nat.eq_of_beq_eq_true g1, g2, Nat.le_of_ble_eq_true g3, hD2, hrec⟩
      · cases hi
theorem jgoodTs {M : jM} {Y : jK} (h : Jvm.Cond.code Y.1 Y.2.1 M.2.1 Y.2.2.1 ∈ lw_tbl) : GoodIn jG (jTs M Y) := by
  intro w hw
  rcases List.mem_cons.mp hw with rfl | hw
  · exact ⟨jGm h rfl, good_of_word rfl⟩
  · exact ⟨hw, good_of_word (jGg hw)⟩
theorem jmapL {B : Nat} {EX : Nat → Nat} {n : Nat} {As rest : List Value} (h : jcats rest ≤ 8) {m : MethodId} {pc : Nat} {ls : Array Slot} {st : List Value} : 2 * (F0 m pc ls st).monitorRoom + ((rest.map (jcv B EX)).map fun v => v.category).sum ≤ 8 := by
  rw [jcv_cats]
  show 2 * 0 + jcats rest ≤ 8
  omega
theorem jWld_to (C0 : jC p s args m meth c cc nL own isI D cA B EX adV Ln xs nc0) {h : jH} {H : Heap} {locs : List Loc} {cells : Nat} (hP : va_P D jcls (jws cA B EX h.1) H) (hS : va_S (fun q => B ≤ q) s.heap H locs) (hc : cells + nc0 = h.2.1) (hz : h.2.2.2 = (Ln, xs)) (hsz : H.size ≤ s.heap.size + cells)
    {U : State} (hU : U.heap = H) (hW : s.WarmedH U.vm) : jWld D cA B EX adV Ln xs h U := by
  obtain ⟨hx, hb, hml, hown, hin, hts, hK, hBs, hsz0, hF, hlk⟩ := C0
  refine ⟨by rw [hU]; exact hP, va_K.moved hW.alike hK, by rw [hU]; exact Nat.le_trans hBs hS.1, by rw [hU]; omega, jFr_to hW hS hU hF, hz⟩
theorem jr_own {n : Nat} (IH : jBody l D cA B EX adV Ln xs n) (hMo : jMo_all 0 jmeth jyy) (hMc : jMc_all 0 jmeth jyy) (C0 : jC p s args m meth c cc nL own isI D cA B EX adV Ln xs nc0) {pc k a Dp rk : Nat} {ls : Array Slot} {L : jL} (hL : jLok B EX nL L ls) (ha : a < 1000) (hac : a ≠ jcellm) (hal : a ≠ jlawm)
    (hlink : (own, k, a) ∈ jlm ∨ ∃ hn, (own, k, a, hn) ∈ jln) {ins : Instr} (hd : decode cc pc = .ok (ins, 3))
    (hkind : (ins = .invokevirtual k ∧ (jyy.getD a jy_0).2.2.2.2.1 = 1) ∨ (ins = .invokestatic k ∧ (jyy.getD a jy_0).2.2.2.2.1 = 0) ∨ (ins = .invokespecial k ∧ (jyy.getD a jy_0).2.2.2.2.1 = 2))
    (hR : rk + Dp + 10 ≤ R.frames ∧ 40 * (rk + Dp) + 400 ≤ R.locals) {As rest : List Value} {h h' : jH} {r : Option Value} (hrest : jcats rest ≤ 8) (hi : jinv (jrun n) Dp rk a As h = some (r, h')) : jRule p l en R s m args below meth c Q D cA B EX Ln xs nc0 ns0 pc ls As rest h r h' := by
  obtain ⟨M2, D2, hM2, hna, hrv, hlay, hdp, hrun⟩ := jinv_own ha hi
  obtain ⟨Y, hY, hok⟩ := jMo_at _ _ _ _ _ hMo hM2
  obtain ⟨Y2, hY2, hca⟩ := jMc_at _ _ _ _ _ hMc hM2
  cases hY.symm.trans hY2
  rw [Nat.zero_add] at hok hca
  have hok := hok hac
  obtain ⟨⟨n1, n2⟩, hcode, hini, hml20, ho14, hcall⟩ := hca hal
  have hM := jMet_of IH hM2 hok hlay ho14 hrun
  have hle := jrun_le hrun
  have hdd := jdep_spec hdp
  have hyd : jyy.getD a jy_0 = Y := by
    rw [jnth_eq] at hY
    rw [List.getD_eq_getElem?_getD, hY]
    rfl
  have hjn : jname a = Y.1 := by
    unfold jname
    have hb : Nat.blt a 1000 = true := Nat.ble_eq_true_of_le ha
    rw [hb, cond_true, hyd]
  rw [hyd] at hkind
  have C1 := C0
  obtain ⟨hx, hb, hml, hown, hin, hts, hK, hBs, hsz0, hF, hlk⟩ := C0
  have hro : (jroom M2.2.2.2.2.1 D2 (h'.2.1 - h.2.1) (h'.2.2.1 - h.2.2.1)).frames + 1 ≤ R.frames ∧ 8 + (M2.2.1 + 11) + (jroom M2.2.2.2.2.1 D2 (h'.2.1 - h.2.1) (h'.2.2.1 - h.2.2.1)).locals ≤ R.locals := by
    refine ⟨?_, ?_⟩
    · show M2.2.2.2.2.1 + D2 + 10 + 1 ≤ R.frames
      omega
    · show 8 + (M2.2.1 + 11) + (40 * (M2.2.2.2.2.1 + D2) + 400) ≤ R.locals
      omega
  have hini2 := hts _ (jGm hini rfl)
  have hnest : ∀ hn, (own, k, a, hn) ∈ jln → va_Nw (.methodLinkNest (jown.getD own "") k Y.1 hn) s := by
    intro hn hm
    have h1 := hF.2.2.2.1 _ hm
    unfold jnw at h1
    dsimp only at h1
    rw [hjn] at h1
    exact h1
  have hlk2 : (own, k, a) ∈ jlm → (Jvm.Cond.methodLink (jown.getD own "") k Y.1).before args s = true := by
    intro hm
    have h1 := hts _ (jGm (jlm_ok _ hm) rfl)
    unfold jmw at h1
    dsimp only at h1
    rw [hjn] at h1
    exact h1
  intro H locs cells slots hP hS hc hs hz hR2 kk
  refine W.bnd (fun hsz => ?_)
  have hwld : ∀ U : State, U.heap = H → s.WarmedH U.vm → va_Pc (As.map (jcv B EX)) (jWld D cA B EX adV Ln xs h) (As.map (jcv B EX)).toArray U := fun U hU hW => ⟨rfl, jWld_to C1 hP hS hc hz hsz hU hW⟩
  have hf : cells + (h'.2.1 - h.2.1) ≤ R.cells ∧ slots + (h'.2.2.1 - h.2.2.1) ≤ R.slots := by
    obtain ⟨l1, l2, -⟩ := hle
    have l1 : h.2.1 ≤ h'.2.1 := l1
    have l2 : h.2.2.1 ≤ h'.2.2.1 := l2
    omega
  have hsize : (F0 m pc ls ((As.reverse ++ rest).map (jcv B EX))).locals.size = nL := hL.1.1
  rcases hkind with ⟨rfl, hk1⟩ | ⟨rfl, hk1⟩ | ⟨rfl, hk1⟩
  · rw [hk1] at hcall
    obtain ⟨hpar, hinst, hsel, cr, hcr, hcn, hc12⟩ := hcall
    unfold jrecv at hrv
    rw [hcr] at hrv
    dsimp only at hrv
    split at hrv
    · rename_i q As0
      split at hrv
      · rename_i d fs hq
        have hcd := Nat.eq_of_beq_eq_true hrv
        subst hcd
        have hpar2 : (parseMethodDescriptor Y.1.desc).map (fun d => d.parameters.length) = some As0.length := by
          cases hpd : parseMethodDescriptor Y.1.desc with
          | none => rw [hpd] at hpar; cases hpar
          | some dd =>
            rw [hpd] at hpar
            have h1 : dd.parameters.length + 1 = M2.2.2.2.1 := Option.some.inj hpar
            rw [hna] at h1
            show some dd.parameters.length = some As0.length
            have h2 : dd.parameters.length + 1 = As0.length + 1 := h1
            rw [Nat.succ.inj h2]
        have hpre : PreV s H Y.1.cls (B + q) (va_Pc ((Value.ref q :: As0).map (jcv B EX)) (jWld D cA B EX adV Ln xs h)) (As0.map (jcv B EX)) :=
          ⟨jWld_blind, by rw [← hcn]; exact va_recv hK hP (jCls_all hc12).1 (jws_get hq), hwld⟩
        have hst : (F0 m pc ls (((Value.ref q :: As0).reverse ++ rest).map (jcv B EX))).stack = (As0.map (jcv B EX)).reverse ++ .ref (B + q) :: rest.map (jcv B EX) := by
          show ((Value.ref q :: As0).reverse ++ rest).map (jcv B EX) = _
          simp [jcv]
        have hin2 := hts _ (jGm hinst rfl)
        have hse2 := hts _ (jGm hsel rfl)
        rcases hlink with hm | ⟨hn, hm⟩
        · have cb := callB_of (R := R) (own := jown.getD own "") (index := k) (rm := jroom M2.2.2.2.2.1 D2 (h'.2.1 - h.2.1) (h'.2.2.1 - h.2.2.1)) As0.length hts (jgoodTs hcode) rfl rfl rfl hini2 (hlk2 hm) ⟨n1, n2, hpar2⟩ hro
          exact jfinish (va_runV ⟨hx, hb, hml, hown, hts⟩ hM ⟨cb, hin2, hse2⟩ hpre rfl (by rw [List.length_map]) hsize hst (jmapL (As := As0) (n := 0) hrest) hd hf) hS hle hc hs hz kk
        · have cb := va_cnB (R := R) (own := jown.getD own "") (index := k) (rm := jroom M2.2.2.2.2.1 D2 (h'.2.1 - h.2.1) (h'.2.2.1 - h.2.2.1)) As0.length hts (jgoodTs hcode) rfl rfl rfl (hnest hn hm) hini2 ⟨n1, n2, hpar2⟩ hro
          exact jfinish (va_runVN ⟨hx, hb, hml, hown, hts⟩ hM ⟨cb, hin2, hse2⟩ hpre rfl (by rw [List.length_map]) hsize hst (jmapL (As := As0) (n := 0) hrest) hd hf) hS hle hc hs hz kk
      · cases hrv
    · cases hrv
  · rw [hk1] at hcall
    obtain ⟨hpar, hstt⟩ := hcall
    rw [hna] at hpar
    have hst2 := hts _ (jGm hstt rfl)
    have hpre : PreS s H (va_Pc (As.map (jcv B EX)) (jWld D cA B EX adV Ln xs h)) (As.map (jcv B EX)) := ⟨jWld_blind, hwld⟩
    have hst : (F0 m pc ls ((As.reverse ++ rest).map (jcv B EX))).stack = (As.map (jcv B EX)).reverse ++ rest.map (jcv B EX) := by
      show (As.reverse ++ rest).map (jcv B EX) = _
      simp
    rcases hlink with hm | ⟨hn, hm⟩
    · have cb := callB_of (R := R) (own := jown.getD own "") (index := k) (rm := jroom M2.2.2.2.2.1 D2 (h'.2.1 - h.2.1) (h'.2.2.1 - h.2.2.1)) As.length hts (jgoodTs hcode) rfl rfl rfl hini2 (hlk2 hm) ⟨n1, n2, hpar⟩ hro
      exact jfinish (va_runS ⟨hx, hb, hml, hown, hts⟩ hM ⟨cb, hst2⟩ hpre rfl (by rw [List.length_map]) hsize hst (jmapL (As := As) (n := 0) hrest) hd hf) hS hle hc hs hz kk
    · have cb := va_cnB (R := R) (own := jown.getD own "") (index := k) (rm := jroom M2.2.2.2.2.1 D2 (h'.2.1 - h.2.1) (h'.2.2.1 - h.2.2.1)) As.length hts (jgoodTs hcode) rfl rfl rfl (hnest hn hm) hini2 ⟨n1, n2, hpar⟩ hro
      exact jfinish (va_runSN ⟨hx, hb, hml, hown, hts⟩ hM ⟨cb, hst2, trivial⟩ hpre rfl (by rw [List.length_map]) hsize hst (jmapL (As := As) (n := 0) hrest) hd hf) hS hle hc hs hz kk
  · rw [hk1] at hcall
    obtain ⟨hpar, hinst, hnm, hrk0, cr, hcr⟩ := hcall
    have hin2 := hts _ (jGm hinst rfl)
    have hret0 : Y.2.2.1 = none := by
      obtain ⟨-, -, hret, -⟩ := hok
      rw [hret, hrk0]
      rfl
    unfold jrecv at hrv
    rw [hcr] at hrv
    dsimp only at hrv
    split at hrv
    · rename_i q As0
      have hpar2 : (parseMethodDescriptor Y.1.desc).map (fun d => d.parameters.length) = some As0.length := by
        cases hpd : parseMethodDescriptor Y.1.desc with
        | none => rw [hpd] at hpar; cases hpar
        | some dd =>
          rw [hpd] at hpar
          have h1 : dd.parameters.length + 1 = M2.2.2.2.1 := Option.some.inj hpar
          rw [hna] at h1
          show some dd.parameters.length = some As0.length
          have h2 : dd.parameters.length + 1 = As0.length + 1 := h1
          rw [Nat.succ.inj h2]
      have hpre : PreS s H (va_Pc ((Value.ref q :: As0).map (jcv B EX)) (jWld D cA B EX adV Ln xs h)) (.ref (B + q) :: As0.map (jcv B EX)) := ⟨jWld_blind, hwld⟩
      have hst : (F0 m pc ls (((Value.ref q :: As0).reverse ++ rest).map (jcv B EX))).stack = (As0.map (jcv B EX)).reverse ++ .ref (B + q) :: rest.map (jcv B EX) := by
        show ((Value.ref q :: As0).reverse ++ rest).map (jcv B EX) = _
        simp [jcv]
      have hw2 : jTs M2 Y = Jvm.Cond.code Y.1 Y.2.1 M2.2.1 none :: jG := by unfold jTs; rw [hret0]
      rcases hlink with hm | ⟨hn, hm⟩
      · have cb := callB_of (R := R) (own := jown.getD own "") (index := k) (rm := jroom M2.2.2.2.2.1 D2 (h'.2.1 - h.2.1) (h'.2.2.1 - h.2.2.1)) As0.length hts (jgoodTs hcode) hw2 rfl rfl hini2 (hlk2 hm) ⟨n1, n2, hpar2⟩ hro
        exact jfinish (va_runI ⟨hx, hb, hml, hown, hts⟩ hM ⟨cb, hnm, hin2⟩ hpre rfl (by rw [List.length_map]) hsize hst (jmapL (As := As0) (n := 0) hrest) hd hf) hS hle hc hs hz kk
      · have cb := va_cnB (R := R) (own := jown.getD own "") (index := k) (rm := jroom M2.2.2.2.2.1 D2 (h'.2.1 - h.2.1) (h'.2.2.1 - h.2.2.1)) As0.length hts (jgoodTs hcode) hw2 rfl rfl (hnest hn hm) hini2 ⟨n1, n2, hpar2⟩ hro
        exact jfinish (va_runIN ⟨hx, hb, hml, hown, hts⟩ hM ⟨cb, hnm, hin2⟩ hpre rfl (by rw [List.length_map]) hsize hst (jmapL (As := As0) (n := 0) hrest) hd hf) hS hle hc hs hz kk
    · cases hrv
/-- where an invoke stands in the table -/
theorem jinv_ok {pcs : List (Nat × Nat)} {i : Nat} {e : jI} (hok : jokb own isI cc pcs i e = true) (hk : jkind e ≠ 0) (hk1 : jkind e ≠ 1) :
    ∃ (k : Nat), jpc pcs e.2.1 = jpc pcs i + 3 ∧ e.2.2.1 ≠ jcellm ∧ e.2.2.1 ≠ jlawm ∧ decode cc (jpc pcs i) = .ok (e.1, 3) ∧
      ((e.1 = .invokevirtual k ∧ ((own, k, e.2.2.1) ∈ jlm ∨ ∃ hn, (own, k, e.2.2.1, hn) ∈ jln) ∧ ((jyy.getD e.2.2.1 jy_0).2.2.2.2.1 = 1 ∨ e.2.2.1 = 1002 ∨ e.2.2.1 = 1003)) ∨
       (e.1 = .invokestatic k ∧ (own, k, e.2.2.1) ∈ jlm ∧ ((e.2.2.1 < 1000 ∧ (jyy.getD e.2.2.1 jy_0).2.2.2.2.1 = 0) ∨ e.2.2.1 = 1001 ∨ (e.2.2.1 = 1004 ∧ own = 14) ∨ (1005 ≤ e.2.2.1 ∧ e.2.2.1 ≤ 1010))) ∨
       (e.1 = .invokespecial k ∧ ((own, k, e.2.2.1) ∈ jlm ∨ ∃ hn, (own, k, e.2.2.1, hn) ∈ jln) ∧ ((e.2.2.1 < 1000 ∧ (jyy.getD e.2.2.1 jy_0).2.2.2.2.1 = 2) ∨ e.2.2.1 = 1000))) := by
  obtain ⟨ins, nx, a, b, v, sw⟩ := e
  unfold jokb at hok
  cases hp : jnth pcs i with
  | none => rw [hp] at hok; cases hok
  | some q =>
  obtain ⟨pc, len⟩ := q
  rw [hp] at hok
  dsimp only at hok
  rw [Bool.and_eq_true] at hok
  obtain ⟨hd, hr⟩ := hok
  replace hd := of_decide_eq_true hd
  have hpc : jpc pcs i = pc := by simp [jpc, hp]
  rw [hpc]
  have hany : ∀ k, jln.any (fun x => Nat.beq x.1 own && Nat.beq x.2.1 k && Nat.beq x.2.2.1 a) = true → ∃ hn, (own, k, a, hn) ∈ jln := by
    intro k h
    obtain ⟨⟨x1, x2, x3, x4⟩, hx, h2⟩ := List.any_eq_true.mp h
    simp only [Bool.and_eq_true] at h2
    obtain ⟨⟨g1, g2⟩, g3⟩ := h2
    cases Nat.eq_of_beq_eq_true g1
    cases Nat.eq_of_beq_eq_true g2
    cases Nat.eq_of_beq_eq_true g3
    exact ⟨x4, hx⟩
  have hne : ∀ y : Nat, (!Nat.beq a y) = true → a ≠ y := by
    intro y h e
    subst e
    rw [Nat.beq_eq.mpr rfl] at h
    cases h
  cases ins <;> first | exact absurd rfl hk | exact absurd rfl hk1 | skip
  case invokevirtual k =>
    simp only [Bool.and_eq_true, Bool.or_eq_true] at hr
    obtain ⟨⟨⟨⟨h1, h2⟩, h3⟩, h4⟩, h5⟩ := hr
    obtain ⟨rfl, e1⟩ := jnx_spec h3
    refine ⟨k, e1, hne _ h1, hne _ h2, hd, Or.inl ⟨rfl, ?_, ?_⟩⟩
    · rcases h4 with h4 | h4
      · exact Or.inl (of_decide_eq_true h4)
      · exact Or.inr (hany k h4)
    · rcases h5 with (h5 | h5) | h5
      · exact Or.inl (Nat.eq_of_beq_eq_true h5)
      · exact Or.inr (Or.inl (Nat.eq_of_beq_eq_true h5))
      · exact Or.inr (Or.inr (Nat.eq_of_beq_eq_true h5))
  case invokestatic k =>
    simp only [Bool.and_eq_true, Bool.or_eq_true] at hr
    obtain ⟨⟨⟨⟨h1, h2⟩, h3⟩, h4⟩, h5⟩ := hr
    obtain ⟨rfl, e1⟩ := jnx_spec h3
    refine ⟨k, e1, hne _ h1, hne _ h2, hd, Or.inr (Or.inl ⟨rfl, of_decide_eq_true h4, ?_⟩)⟩
    rcases h5 with ((h5 | h5) | h5) | h5
    · exact Or.inl ⟨Nat.le_of_ble_eq_true h5.1, Nat.eq_of_beq_eq_true h5.2⟩
    · exact Or.inr (Or.inl (Nat.eq_of_beq_eq_true h5))
    · exact Or.inr (Or.inr (Or.inl ⟨Nat.eq_of_beq_eq_true h5.1, Nat.eq_of_beq_eq_true h5.2⟩))
    · exact Or.inr (Or.inr (Or.inr ⟨Nat.le_of_ble_eq_true h5.1, Nat.le_of_ble_eq_true h5.2⟩))
  case invokespecial k =>
    simp only [Bool.and_eq_true, Bool.or_eq_true] at hr
    obtain ⟨⟨⟨⟨h1, h2⟩, h3⟩, h4⟩, h5⟩ := hr
    obtain ⟨rfl, e1⟩ := jnx_spec h3
    refine ⟨k, e1, hne _ h1, hne _ h2, hd, Or.inr (Or.inr ⟨rfl, ?_, ?_⟩)⟩
    · rcases h4 with h4 | h4
      · exact Or.inl (of_decide_eq_true h4)
      · exact Or.inr (hany k h4)
    · rcases h5 with h5 | h5
      · exact Or.inl ⟨Nat.le_of_ble_eq_true h5.1, Nat.eq_of_beq_eq_true h5.2⟩
      · exact Or.inr (Nat.eq_of_beq_eq_true h5)
theorem jln_small : ∀ x ∈ jln, x.2.2.1 < 1000 := by decide +kernel
theorem jk2 : jy_0.2.2.2.2.1 = 2 := by decide +kernel
theorem jyl : jyy.length ≤ 1000 := by decide +kernel
theorem jgetD_big {α : Type} {l : List α} {a n : Nat} {d : α} (hl : l.length ≤ n) (h : ¬ a < n) : l.getD a d = d := by
  rw [List.getD_eq_getElem?_getD, List.getElem?_eq_none (by omega)]
  rfl
theorem jkind_big {a : Nat} (h : ¬ a < 1000) : (jyy.getD a jy_0).2.2.2.2.1 = 2 := by
  rw [jgetD_big jyl h]
  exact jk2
theorem jprim_of {rec : Nat → Nat → Nat → jL → List Value → jH → Option (jO × jH)} {Dp rk a : Nat} {As : List Value} {h : jH} (ha : ¬ a < 1000) (h4 : a ≠ 1004) : jinv rec Dp rk a As h = jprim (a - 1000) As h := by
  unfold jinv
  have h1 : Nat.blt a 1000 = false := by
    cases hb : Nat.blt a 1000 with
    | true => exact absurd (Nat.le_of_ble_eq_true hb) ha
    | false => rfl
  have h2 : Nat.beq a 1004 = false := by
    cases hb : Nat.beq a 1004 with
    | true => exact absurd (Nat.eq_of_beq_eq_true hb) h4
    | false => rfl
  simp only [h1, h2, cond_false]
set_option maxRecDepth 4000 in
/-- EVERY RUN of the small machine is one of the machine -/
theorem jbody (hPs : jPstr l D cA B EX adV Ln xs) (hMo : jMo_all 0 jmeth jyy) (hMc : jMc_all 0 jmeth jyy) : ∀ n, jBody l D cA B EX adV Ln xs n := by
  intro n
  induction n with
  | zero =>
    intro p en R s m args below meth c Q cc own isI nc0 ns0 Dp mid pc L S h x M pcs hrun
    simp [jrun] at hrun
  | succ n IH =>
    intro p en R s m args below meth c Q cc own isI nc0 ns0 Dp mid pc L S h x M pcs hrun hM hokc C0 hR hRs hcell H locs ls cells slots hP hS hL hc hs hz hend
    have hrun : jgo (jrun n) Dp mid pc L S h = some x := hrun
    unfold jgo at hrun
    rw [hM] at hrun
    dsimp only at hrun
    split at hrun
    · cases hrun
    · rename_i e he
      have hob := jok_at hokc he
      split at hrun
      · rename_i hk
        split at hrun
        · cases hrun
        · rename_i pc1 L1 S1 h1 hst
          have hle := jrun_le hrun
          refine jstep_ok C0 hob hP hS hL hc hs hz ⟨Nat.le_trans hle.1 hRs.1, Nat.le_trans hle.2.1 hRs.2⟩ hst (fun H' locs' ls' cells' slots' hP' hS' hL' hc' hs' hz' => ?_)
          exact IH hrun hM hokc C0 hR hRs hcell hP' hS' hL' hc' hs' hz' hend
      · exact hend he hrun hP hS hc hs
      · rename_i k0 hk0 hk1
        obtain ⟨hg, hrun⟩ := jbo hrun
        rw [Bool.and_eq_true] at hg
        have hrest : jcats (S.drop e.2.2.2.1) ≤ 8 := Nat.le_of_ble_eq_true hg.2
        split at hrun
        · cases hrun
        · rename_i r h1 hi
          have hle := jrun_le hrun
          obtain ⟨k, e1, hac, hal, hd, hins⟩ := jinv_ok hob hk0 hk1
          have hR10 : 10 ≤ R.frames ∧ 400 ≤ R.locals := by omega
          have hgo : jRule p l en R s m args below meth c Q D cA B EX Ln xs nc0 ns0 (jpc pcs pc) ls (S.take e.2.2.2.1).reverse (S.drop e.2.2.2.1) h r h1 := by
            by_cases ha : e.2.2.1 < 1000
            · refine jr_own IH hMo hMc C0 hL ha hac hal ?_ hd ?_ hR hrest hi (k := k)
              · rcases hins with ⟨-, h2, -⟩ | ⟨-, h2, -⟩ | ⟨-, h2, -⟩
                · exact h2
                · exact Or.inl h2
                · exact h2
              · rcases hins with ⟨h1, -, h3⟩ | ⟨h1, -, h3⟩ | ⟨h1, -, h3⟩
                · exact Or.inl ⟨h1, by omega⟩
                · exact Or.inr (Or.inl ⟨h1, by omega⟩)
                · exact Or.inr (Or.inr ⟨h1, by omega⟩)
            · by_cases h4 : e.2.2.1 = 1004
              · rcases hins with ⟨h1, h2, h3⟩ | ⟨h1, h2, h3⟩ | ⟨h1, h2, h3⟩
                · exfalso
                  have := jkind_big ha
                  omega
                · have ho : own = 14 := by omega
                  subst ho
                  rw [h4] at hi h2
                  rw [h1] at hd
                  exact hcell rfl hL h2 hd hR hrest hi
                · exfalso; omega
              · rw [jprim_of ha h4] at hi
                rcases hins with ⟨h1, h2, h3⟩ | ⟨h1, h2, h3⟩ | ⟨h1, h2, h3⟩
                · have hb := jkind_big ha
                  rw [h1] at hd
                  have hm : (own, k, e.2.2.1) ∈ jlm := by
                    rcases h2 with h2 | ⟨hn, h2⟩
                    · exact h2
                    · exact absurd (jln_small _ h2) ha
                  rcases h3 with h3 | h3 | h3
                  · omega
                  · rw [h3] at hm hi
                    exact hPs C0 hL (Or.inl rfl) hm hd hR10 hrest hi
                  · rw [h3] at hm hi
                    exact hPs C0 hL (Or.inr rfl) hm hd hR10 hrest hi
                · rw [h1] at hd
                  have h9 : e.2.2.1 = 1001 ∨ e.2.2.1 = 1005 ∨ e.2.2.1 = 1006 ∨ e.2.2.1 = 1007 ∨ e.2.2.1 = 1008 ∨ e.2.2.1 = 1009 ∨ e.2.2.1 = 1010 := by omega
                  rcases h9 with h9 | h9 | h9 | h9 | h9 | h9 | h9 <;> rw [h9] at h2 hi
                  · exact jr_cp C0 hL h2 hd hR10 hrest hi
                  · exact jr_5 C0 hL h2 hd hR10 hrest hi
                  · exact jr_6 C0 hL h2 hd hR10 hrest hi
                  · exact jr_7 C0 hL h2 hd hR10 hrest hi
                  · exact jr_8 C0 hL h2 hd hR10 hrest hi
                  · exact jr_9 C0 hL h2 hd hR10 hrest hi
                  · exact jr_10 C0 hL h2 hd hR10 hrest hi
                · rw [h1] at hd
                  have h9 : e.2.2.1 = 1000 := by omega
                  have hm : (own, k, e.2.2.1) ∈ jlm := by
                    rcases h2 with h2 | ⟨hn, h2⟩
                    · exact h2
                    · exact absurd (jln_small _ h2) ha
                  rw [h9] at hm hi
                  exact jr_obj C0 hL hm hd hR10 hrest hi
          have hS2 : (S.take e.2.2.2.1).reverse.reverse ++ S.drop e.2.2.2.1 = S := by rw [List.reverse_reverse, List.take_append_drop]
          have h9 := hgo hP hS hc hs hz ⟨Nat.le_trans hle.1 hRs.1, Nat.le_trans hle.2.1 hRs.2⟩ (fun H' locs' cells' slots' hP' hS' hc' hs' hz' => by
            rw [← e1]
            exact IH hrun hM hokc C0 hR hRs hcell hP' hS' hL hc' hs' hz' hend)
          rw [hS2] at h9
          exact h9
end JBO
