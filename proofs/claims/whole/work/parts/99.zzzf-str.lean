-- THE TEXTS: their two methods as steps of the small machine
theorem jP_kept {D : va_G} {cl : List vw_C} {ws : va_W} {H H1 : Heap} (h : va_P D cl ws H) (hk : ∀ q : Nat, q < H.size → ¬ False → H1[q]? = H[q]?) : va_P D cl ws H1 := by
  exact h.kept (fun k q hq => hk q.1 (h k q hq).lt (fun e => e))
theorem jF_SW {B Ln : Nat} {xs : Nat → Int32} {EX adV : Nat → Nat} {s U : State} {H : Heap} {locs : List Loc} (hF : jFr B Ln xs EX adV s s.heap) (hS : va_S (fun q => B ≤ q) s.heap H locs) (hU : U.heap = H) (hW : s.WarmedH U.vm) : jSW EX adV U := by
  obtain ⟨-, -, -, -, -, -, h7, h8, h9⟩ := hF
  unfold jSW
  rw [hU]
  exact ⟨((h7.moved hW.alike).kept hS.2.1).narrow (fun _ e => e.elim), ((h8.moved hW.alike).kept hS.2.1).narrow (fun _ e => e.elim), ((h9.moved hW.alike).kept hS.2.1).narrow (fun _ e => e.elim)⟩
theorem jF_recv {B Ln i : Nat} {xs : Nat → Int32} {EX adV : Nat → Nat} {s : State} {H : Heap} {locs : List Loc} (hF : jFr B Ln xs EX adV s s.heap) (hi : i < 2) (hS : va_S (fun q => B ≤ q) s.heap H locs) : ∃ cell : Cell, H[EX (i + 1)]? = some cell ∧ cell.vm.isStatics = false ∧ s.vm.findClass "java/lang/String" = some cell.cls := by
  obtain ⟨-, -, -, -, -, -, h7, -, -⟩ := hF
  exact vk_recv (i := i) (adK := fun i => EX (i + 1)) h7 hi hS
section JSTR
variable {p : Program} {l : Launch} {en : Env} {R : Room} {s : State} {m : MethodId} {args : Array Value} {below : List Frame} {meth : Method} {c : Code} {Q : State → Prop}
variable {cc : ByteArray} {nL own : Nat} {isI : Bool} {D : va_G} {cA : Nat → ClassId} {B : Nat} {EX adV : Nat → Nat} {Ln : Nat} {xs : Nat → Int32} {nc0 ns0 : Nat}
set_option maxRecDepth 100000 in
theorem jr_len (C0 : jC p s args m meth c cc nL own isI D cA B EX adV Ln xs nc0) {pc k i : Nat} {ls : Array Slot} {L : jL} (hi : i < 2) (hL : jLok B EX nL L ls) (hm : (own, k, 1002) ∈ jlm) (hd : decode cc pc = .ok (.invokevirtual k, 3)) (hR : 10 ≤ R.frames ∧ 400 ≤ R.locals)
    {rest : List Value} {h : jH} (hrest : jcats rest ≤ 8) : jRule p l en R s m args below meth c Q D cA B EX Ln xs nc0 ns0 pc ls [.retAddr (i + 1)] rest h (some (.int (Int32.ofNat (jlen2.getD i 0)))) h := by
  obtain ⟨hx, hb, hml, hown, hin, hts, hK, hBs, hsz, hF, hlk⟩ := C0
  intro H locs cells slots hP hS hc hs hz hR2 kk
  have hlk2 : (Jvm.Cond.methodLink (jown.getD own "") k ys_length).before args s = true := hts _ (jGm (jlm_ok _ hm) rfl)
  have cb := callB_of (s := s) (args := args) (R := R) (own := jown.getD own "") (index := k) (y := ys_length) (bytes := prog_22_method_54_code) (maxL := 1) (ret := some .int) (rm := { frames := 2, cells := 0, slots := 0, locals := 40 }) (mc := 0) (ms := 0) 0 hts (jgoodS 50 (by decide +kernel)) rfl rfl rfl (hts _ (jGm (jT 4 (by decide +kernel)) rfl)) hlk2 ⟨by decide, by decide, by decide +kernel⟩ ⟨by show 2 + 1 ≤ R.frames; omega, by show 8 + (1 + 11) + 40 ≤ R.locals; omega⟩
  refine va_calli (A1 := fun _ => False) (va_runV (C := "java/lang/String") (b := EX (i + 1)) (As := []) (rest := rest.map (jcv B EX)) ⟨hx, hb, hml, hown, hts⟩ (cs_length l (EX := EX) (adV := adV) hi) ⟨cb, hts _ (jGm (jT 48 (by decide +kernel)) rfl), hts _ (jGm (jT 49 (by decide +kernel)) rfl)⟩ ⟨jSW_blind, jF_recv hF hi hS, fun U hU hW => ⟨rfl, jF_SW hF hS hU hW⟩⟩ rfl rfl hL.1.1 rfl (jmapL (As := []) (n := 0) hrest) hd ⟨by omega, by omega⟩) hS (fun _ _ e => e.elim) (fun _ e => e.elim) (fun y u t H1 locs1 ht hvm hw hB hz1 hk1 hS1 => ?_)
  have hw : y = Int32.ofNat (jlen2.getD i 0) := hw
  subst hw
  exact kk _ _ _ _ (jP_kept hP hk1) hS1 hc hs hz
set_option maxRecDepth 100000 in
theorem jr_chr (C0 : jC p s args m meth c cc nL own isI D cA B EX adV Ln xs nc0) {pc k i j : Nat} {ls : Array Slot} {L : jL} (hi : i < 2) (hj : j < jlen2.getD i 0) (hL : jLok B EX nL L ls) (hm : (own, k, 1003) ∈ jlm) (hd : decode cc pc = .ok (.invokevirtual k, 3)) (hR : 10 ≤ R.frames ∧ 400 ≤ R.locals)
    {rest : List Value} {h : jH} (hrest : jcats rest ≤ 8) : jRule p l en R s m args below meth c Q D cA B EX Ln xs nc0 ns0 pc ls [.retAddr (i + 1), .int (Int32.ofNat j)] rest h (some (.int (Int32.ofNat ((jstrs.getD (i + 1) []).getD j 0)))) h := by
  obtain ⟨hx, hb, hml, hown, hin, hts, hK, hBs, hsz, hF, hlk⟩ := C0
  intro H locs cells slots hP hS hc hs hz hR2 kk
  have hlk2 : (Jvm.Cond.methodLink (jown.getD own "") k ys_charAt).before args s = true := hts _ (jGm (jlm_ok _ hm) rfl)
  have cb := callB_of (s := s) (args := args) (R := R) (own := jown.getD own "") (index := k) (y := ys_charAt) (bytes := prog_22_method_56_code) (maxL := 2) (ret := some .char) (rm := { frames := 4, cells := 0, slots := 0, locals := 120 }) (mc := 0) (ms := 0) 1 hts (jgoodS 60 (by decide +kernel)) rfl rfl rfl (hts _ (jGm (jT 4 (by decide +kernel)) rfl)) hlk2 ⟨by decide, by decide, by decide +kernel⟩ ⟨by show 4 + 1 ≤ R.frames; omega, by show 8 + (2 + 11) + 120 ≤ R.locals; omega⟩
  refine va_calli (A1 := fun _ => False) (va_runV (C := "java/lang/String") (b := EX (i + 1)) (As := [.int (Int32.ofNat j)]) (rest := rest.map (jcv B EX)) ⟨hx, hb, hml, hown, hts⟩ (cs_charAt l (EX := EX) (adV := adV) hi hj) ⟨cb, hts _ (jGm (jT 58 (by decide +kernel)) rfl), hts _ (jGm (jT 59 (by decide +kernel)) rfl)⟩ ⟨jSW_blind, jF_recv hF hi hS, fun U hU hW => ⟨rfl, jF_SW hF hS hU hW⟩⟩ rfl rfl hL.1.1 rfl (jmapL (As := []) (n := 0) hrest) hd ⟨by omega, by omega⟩) hS (fun _ _ e => e.elim) (fun _ e => e.elim) (fun y u t H1 locs1 ht hvm hw hB hz1 hk1 hS1 => ?_)
  have hw : y = jch2 i j := hw
  rw [(jch2_ok i hi j hj).1] at hw
  subst hw
  exact kk _ _ _ _ (jP_kept hP hk1) hS1 hc hs hz
end JSTR
