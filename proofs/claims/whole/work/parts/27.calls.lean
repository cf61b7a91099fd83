-- THE BODY OF A METHOD, ITS CALLS
def jWld (D : va_G) (cA : Nat → ClassId) (B : Nat) (EX adV : Nat → Nat) (Ln : Nat) (xs : Nat → Int32) (h : jH) (U : State) : Prop :=
  va_P D jcls (jws cA B EX h.1) U.heap ∧ va_K D jcls (jtys cA) U ∧ B ≤ U.heap.size ∧ U.heap.size ≤ B + h.2.1 ∧ jFr B Ln xs EX adV U U.heap ∧ h.2.2.2 = (Ln, xs)
def jQc (D : va_G) (cA : Nat → ClassId) (B : Nat) (EX : Nat → Nat) (h' : jH) (r : Option Value) : Array Value → State → Outcome → State → Prop := match r with
  | some (.int x) => va_Qi (fun y (_ : Unit) => y = x) (fun _ t => va_P D jcls (jws cA B EX h'.1) t.heap) (fun q => B ≤ q)
  | some (.long x) => va_Ql (fun y (_ : Unit) => y = x) (fun _ t => va_P D jcls (jws cA B EX h'.1) t.heap) (fun q => B ≤ q)
  | none => va_Qv (fun (_ : Unit) => True) (fun _ t => va_P D jcls (jws cA B EX h'.1) t.heap) (fun q => B ≤ q)
  | _ => fun _ _ _ _ => False
def jroom (rk Dp mc ms : Nat) : Room := { frames := rk + Dp + 10, cells := mc, slots := ms, locals := 40 * (rk + Dp) + 400 }
def jTs (M : jM) (Y : jK) : List Jvm.Cond := .code Y.1 Y.2.1 M.2.1 Y.2.2.1 :: jG
theorem jFr_call {B Ln : Nat} {xs : Nat → Int32} {EX adV : Nat → Nat} {U : State} {H : Heap} {g : JFrame} {mk : MethodId} {a : Array Value} (h : jFr B Ln xs EX adV U H) : jFr B Ln xs EX adV (U.calling g mk a) H := by
  obtain ⟨h1, h2, h3, h4, h5, h6, h7, h8, h9⟩ := h
  have hr : U.vm.Alike (U.calling g mk a).vm := Vm.Alike.refl U.vm
  exact ⟨h1.moved hr, h2, h3.moved hr, fun x hx => va_Nw.same (by rfl) (by rfl) (h4 x hx), vk_R.same rfl h5, vk_R.same rfl h6, h7.moved hr, h8.moved hr, h9.moved hr⟩
theorem jFr_to {B Ln : Nat} {xs : Nat → Int32} {EX adV : Nat → Nat} {s U : State} {H : Heap} {locs : List Loc} (hW : s.WarmedH U.vm) (hS : va_S (fun q => B ≤ q) s.heap H locs) (hU : U.heap = H) (h : jFr B Ln xs EX adV s s.heap) : jFr B Ln xs EX adV U U.heap := by
  obtain ⟨h1, h2, h3, h4, h5, h6, h7, h8, h9⟩ := h
  rw [hU]
  have hk : ∀ a : Nat, a < s.heap.size → ¬ (fun q => B ≤ q) a → H[a]? = s.heap[a]? := hS.2.1
  have hx : EX 0 < s.heap.size := by
    obtain ⟨scr, g1, -⟩ := h1
    exact (Array.getElem?_eq_some_iff.mp g1).1
  exact ⟨(h1.moved hW.alike).kept (hk _ hx (Nat.not_le.mpr h2)), h2, h3.moved hW.alike, fun x hx => va_Nw.warmM hW (h4 x hx), h5.warm hW, h6.warm hW, (h7.moved hW.alike).kept hk, (h8.moved hW.alike).kept hk, (h9.moved hW.alike).kept hk⟩
theorem jWld_blind {D : va_G} {cA : Nat → ClassId} {B : Nat} {EX adV : Nat → Nat} {Ln : Nat} {xs : Nat → Int32} {h : jH} {as : List Value} : FrameBlind (va_Pc as (jWld D cA B EX adV Ln xs h)) := by
  intro a U g mk ⟨ha, h1, h2, h3, h4, h5, h6⟩
  exact ⟨ha, h1, va_K.moved (u := U) (U := U.calling g mk a) (Vm.Alike.refl U.vm) h2, h3, h4, jFr_call h5, h6⟩
section JB
variable {p : Program} {l : Launch} {en : Env} {R : Room} {s : State} {m : MethodId} {args : Array Value} {below : List Frame} {meth : Method} {c : Code} {Q : State → Prop}
variable {cc : ByteArray} {nL own : Nat} {isI : Bool} {D : va_G} {cA : Nat → ClassId} {B : Nat} {EX adV : Nat → Nat} {Ln : Nat} {xs : Nat → Int32} {nc0 ns0 : Nat}
/-- a call is answered: from the call, whatever the heap, on to behind it -/
def jRule (p : Program) (l : Launch) (en : Env) (R : Room) (s : State) (m : MethodId) (args : Array Value) (below : List Frame) (meth : Method) (c : Code) (Q : State → Prop) (D : va_G) (cA : Nat → ClassId) (B : Nat) (EX : Nat → Nat) (Ln : Nat) (xs : Nat → Int32) (nc0 ns0 pc : Nat) (ls : Array Slot) (As rest : List Value) (h : jH) (r : Option Value) (h' : jH) : Prop :=
  ∀ {H : Heap} {locs : List Loc} {cells slots : Nat}, va_P D jcls (jws cA B EX h.1) H → va_S (fun q => B ≤ q) s.heap H locs → cells + nc0 = h.2.1 → slots + ns0 = h.2.2.1 → h.2.2.2 = (Ln, xs) → (h'.2.1 ≤ nc0 + R.cells ∧ h'.2.2.1 ≤ ns0 + R.slots) →
    (∀ (H' : Heap) (locs' : List Loc) (cells' slots' : Nat), va_P D jcls (jws cA B EX h'.1) H' → va_S (fun q => B ≤ q) s.heap H' locs' → cells' + nc0 = h'.2.1 → slots' + ns0 = h'.2.2.1 → h'.2.2.2 = (Ln, xs) → W p l en R s m args below meth c H' locs' cells' slots' Q (F0 m (pc + 3) ls ((r.toList ++ rest).map (jcv B EX)))) →
    W p l en R s m args below meth c H locs cells slots Q (F0 m pc ls ((As.reverse ++ rest).map (jcv B EX)))
set_option maxRecDepth 100000 in
theorem jr_obj (C0 : jC p s args m meth c cc nL own isI D cA B EX adV Ln xs nc0) {pc k : Nat} {ls : Array Slot} {L : jL} (hL : jLok B EX nL L ls) (hm : (own, k, 1000) ∈ jlm) (hd : decode cc pc = .ok (.invokespecial k, 3)) (hR : 10 ≤ R.frames ∧ 400 ≤ R.locals)
    {As rest : List Value} {h h' : jH} {r : Option Value} (hrest : jcats rest ≤ 8) (hp : jprim 0 As h = some (r, h')) : jRule p l en R s m args below meth c Q D cA B EX Ln xs nc0 ns0 pc ls As rest h r h' := by
  obtain ⟨hx, hb, hml, hown, hin, hts, hK, hBs, hsz, hF, hlk⟩ := C0
  replace hp : (match (generalizing := false) As with
    | [.ref _] => (some (none, h) : Option (Option Value × jH))
    | _ => none) = some (r, h') := hp
  split at hp
  · rename_i q
    cases hp
    intro H locs cells slots hP hS hc hs hz hR2 kk
    show W p l en R s m args below meth c H locs cells slots Q (F0 m pc ls (.ref (B + q) :: rest.map (jcv B EX)))
    refine W.objInit (g := F0 m pc ls (.ref (B + q) :: rest.map (jcv B EX))) (a := B + q) (rest := rest.map (jcv B EX)) hx hb hown (hts _ (jGm (jlm_ok _ hm) rfl)) (hts _ (jGm (jT 32 (by decide +kernel)) rfl)) (hts _ (jGm (jT 33 rfl) rfl)) rfl (by rw [hml]; exact hL.1.1) rfl hd (by omega) ?_ ?_
    · rw [jcv_cats]
      show 2 * 0 + jcats rest + 12 ≤ R.locals
      omega
    · exact kk _ _ _ _ hP hS hc hs hz
  · cases hp
theorem jwords_cp : nativeFrameWords "java/lang/System" "arraycopy" 5 ≤ 100 := by decide +kernel
set_option maxRecDepth 100000 in
theorem jr_cp (C0 : jC p s args m meth c cc nL own isI D cA B EX adV Ln xs nc0) {pc k : Nat} {ls : Array Slot} {L : jL} (hL : jLok B EX nL L ls) (hm : (own, k, 1001) ∈ jlm) (hd : decode cc pc = .ok (.invokestatic k, 3)) (hR : 10 ≤ R.frames ∧ 400 ≤ R.locals)
    {As rest : List Value} {h h' : jH} {r : Option Value} (hrest : jcats rest ≤ 8) (hp : jprim 1 As h = some (r, h')) : jRule p l en R s m args below meth c Q D cA B EX Ln xs nc0 ns0 pc ls As rest h r h' := by
  obtain ⟨hx, hb, hml, hown, hin, hts, hK, hBs, hsz, hF, hlk⟩ := C0
  replace hp : (match (generalizing := false) As with
    | [.ref r, .int sp, .ref q, .int dp, .int n] => match (generalizing := false) jnth h.1 r, jnth h.1 q with
      | some (.inl (0, n0, .inl f)), some (.inl (0, n1, .inl g)) => if sp < 0 ∨ dp < 0 ∨ n < 0 ∨ n0 < sp.toNatClampNeg + n.toNatClampNeg ∨ n1 < dp.toNatClampNeg + n.toNatClampNeg then none
          else (some (none, jput h q (.inl (0, n1, .inl (jcpy f g sp.toNatClampNeg dp.toNatClampNeg n.toNatClampNeg)))) : Option (Option Value × jH))
      | _, _ => none
    | _ => none) = some (r, h') := hp
  split at hp
  · rename_i q sp w dp n
    split at hp
    · rename_i n0 f n1 g hq hw
      obtain ⟨hg, hp⟩ := jdo hp
      cases hp
      intro H locs cells slots hP hS hc hs hz hR2 kk
      show W p l en R s m args below meth c H locs cells slots Q (F0 m pc ls (.int n :: .int dp :: .ref (B + w) :: .int sp :: .ref (B + q) :: rest.map (jcv B EX)))
      simp only [not_or] at hg
      obtain ⟨g1, g2, g3, g4, g5⟩ := hg
      refine va_copyi hx hb (by rw [hml]; exact hL.1.1.symm) hown (hts _ (jGm (jlm_ok _ hm) rfl)) (hts _ (jGm (jT 511 (by decide +kernel)) rfl)) (hts _ (jGm (jT 510 (by decide +kernel)) rfl)) (hts _ (jGm (jT 17 (by decide +kernel)) rfl)) hK hP jws_D hS q w 0 0 (ty := .int) (jws_get hq) (jws_get hw) rfl rfl rfl g1 g2 g3 (by omega) (by omega) (fun _ _ => rfl) (by omega) ?_ hd (fun H1 locs1 hP1 _ hS1 => ?_)
      · rw [jcv_cats]
        have := jwords_cp
        omega
      · refine kk _ _ _ _ ?_ hS1 hc hs hz
        show va_P D jcls (jws cA B EX (h.1.set w (.inl (0, n1, .inl (jcpy f g sp.toNatClampNeg dp.toNatClampNeg n.toNatClampNeg))))) H1
        rw [jws_set]
        exact hP1
    · cases hp
  · cases hp
set_option maxRecDepth 100000 in
theorem jr_5 (C0 : jC p s args m meth c cc nL own isI D cA B EX adV Ln xs nc0) {pc k : Nat} {ls : Array Slot} {L : jL} (hL : jLok B EX nL L ls) (hm : (own, k, 1005) ∈ jlm) (hd : decode cc pc = .ok (.invokestatic k, 3)) (hR : 10 ≤ R.frames ∧ 400 ≤ R.locals)
    {As rest : List Value} {h h' : jH} {r : Option Value} (hrest : jcats rest ≤ 8) (hp : jprim 5 As h = some (r, h')) : jRule p l en R s m args below meth c Q D cA B EX Ln xs nc0 ns0 pc ls As rest h r h' := by
  obtain ⟨hx, hb, hml, hown, hin, hts, hK, hBs, hsz, hF, hlk⟩ := C0
  replace hp : (match (generalizing := false) As with
    | [.int x] => (some (some (.int (if 0 ≤ x then x else 0 - x)), h) : Option (Option Value × jH))
    | _ => none) = some (r, h') := hp
  split at hp
  · rename_i x
    cases hp
    intro H locs cells slots hP hS hc hs hz hR2 kk
    show W p l en R s m args below meth c H locs cells slots Q (F0 m pc ls (.int x :: rest.map (jcv B EX)))
    refine va_mabs hx hb (by rw [hml]; exact hL.1.1.symm) hown (hts _ (jGm (jlm_ok _ hm) rfl)) (hts _ (jGm (jT 792 (by decide +kernel)) rfl)) (hts _ (jGm (jT 19 (by decide +kernel)) rfl)) (hts _ (jGm (jT 793 rfl) rfl)) (by omega) (by rw [jcv_cats]; omega) (by omega) (by omega) hd ?_
    exact kk _ _ _ _ hP hS hc hs hz
  · cases hp
set_option maxRecDepth 100000 in
theorem jr_6 (C0 : jC p s args m meth c cc nL own isI D cA B EX adV Ln xs nc0) {pc k : Nat} {ls : Array Slot} {L : jL} (hL : jLok B EX nL L ls) (hm : (own, k, 1006) ∈ jlm) (hd : decode cc pc = .ok (.invokestatic k, 3)) (hR : 10 ≤ R.frames ∧ 400 ≤ R.locals)
    {As rest : List Value} {h h' : jH} {r : Option Value} (hrest : jcats rest ≤ 8) (hp : jprim 6 As h = some (r, h')) : jRule p l en R s m args below meth c Q D cA B EX Ln xs nc0 ns0 pc ls As rest h r h' := by
  obtain ⟨hx, hb, hml, hown, hin, hts, hK, hBs, hsz, hF, hlk⟩ := C0
  replace hp : (match (generalizing := false) As with
    | [.long x] => (some (some (.long (if 0 < x then x else -x)), h) : Option (Option Value × jH))
    | _ => none) = some (r, h') := hp
  split at hp
  · rename_i x
    cases hp
    intro H locs cells slots hP hS hc hs hz hR2 kk
    show W p l en R s m args below meth c H locs cells slots Q (F0 m pc ls (.long x :: rest.map (jcv B EX)))
    refine va_mabs_long hx hb (by rw [hml]; exact hL.1.1.symm) hown (hts _ (jGm (jlm_ok _ hm) rfl)) (hts _ (jGm (jT 803 (by decide +kernel)) rfl)) (hts _ (jGm (jT 19 (by decide +kernel)) rfl)) (hts _ (jGm (jT 804 rfl) rfl)) (by omega) (by rw [jcv_cats]; omega) (by omega) (by omega) hd ?_
    exact kk _ _ _ _ hP hS hc hs hz
  · cases hp
set_option maxRecDepth 100000 in
theorem jr_7 (C0 : jC p s args m meth c cc nL own isI D cA B EX adV Ln xs nc0) {pc k : Nat} {ls : Array Slot} {L : jL} (hL : jLok B EX nL L ls) (hm : (own, k, 1007) ∈ jlm) (hd : decode cc pc = .ok (.invokestatic k, 3)) (hR : 10 ≤ R.frames ∧ 400 ≤ R.locals)
    {As rest : List Value} {h h' : jH} {r : Option Value} (hrest : jcats rest ≤ 8) (hp : jprim 7 As h = some (r, h')) : jRule p l en R s m args below meth c Q D cA B EX Ln xs nc0 ns0 pc ls As rest h r h' := by
  obtain ⟨hx, hb, hml, hown, hin, hts, hK, hBs, hsz, hF, hlk⟩ := C0
  replace hp : (match (generalizing := false) As with
    | [.int x, .int y] => (some (some (.int (if x < y then y else x)), h) : Option (Option Value × jH))
    | _ => none) = some (r, h') := hp
  split at hp
  · rename_i x y
    cases hp
    intro H locs cells slots hP hS hc hs hz hR2 kk
    show W p l en R s m args below meth c H locs cells slots Q (F0 m pc ls (.int y :: .int x :: rest.map (jcv B EX)))
    refine va_mmax hx hb (by rw [hml]; exact hL.1.1.symm) hown (hts _ (jGm (jlm_ok _ hm) rfl)) (hts _ (jGm (jT 956 (by decide +kernel)) rfl)) (hts _ (jGm (jT 19 (by decide +kernel)) rfl)) (hts _ (jGm (jT 957 rfl) rfl)) (by omega) (by rw [jcv_cats]; omega) (by omega) (by omega) hd ?_
    exact kk _ _ _ _ hP hS hc hs hz
  · cases hp
set_option maxRecDepth 100000 in
theorem jr_8 (C0 : jC p s args m meth c cc nL own isI D cA B EX adV Ln xs nc0) {pc k : Nat} {ls : Array Slot} {L : jL} (hL : jLok B EX nL L ls) (hm : (own, k, 1008) ∈ jlm) (hd : decode cc pc = .ok (.invokestatic k, 3)) (hR : 10 ≤ R.frames ∧ 400 ≤ R.locals)
    {As rest : List Value} {h h' : jH} {r : Option Value} (hrest : jcats rest ≤ 8) (hp : jprim 8 As h = some (r, h')) : jRule p l en R s m args below meth c Q D cA B EX Ln xs nc0 ns0 pc ls As rest h r h' := by
  obtain ⟨hx, hb, hml, hown, hin, hts, hK, hBs, hsz, hF, hlk⟩ := C0
  replace hp : (match (generalizing := false) As with
    | [.int x, .int y] => (some (some (.int (if y < x then y else x)), h) : Option (Option Value × jH))
    | _ => none) = some (r, h') := hp
  split at hp
  · rename_i x y
    cases hp
    intro H locs cells slots hP hS hc hs hz hR2 kk
    show W p l en R s m args below meth c H locs cells slots Q (F0 m pc ls (.int y :: .int x :: rest.map (jcv B EX)))
    refine va_mmin hx hb (by rw [hml]; exact hL.1.1.symm) hown (hts _ (jGm (jlm_ok _ hm) rfl)) (hts _ (jGm (jT 575 (by decide +kernel)) rfl)) (hts _ (jGm (jT 19 (by decide +kernel)) rfl)) (hts _ (jGm (jT 576 rfl) rfl)) (by omega) (by rw [jcv_cats]; omega) (by omega) (by omega) hd ?_
    exact kk _ _ _ _ hP hS hc hs hz
  · cases hp
set_option maxRecDepth 100000 in
theorem jr_9 (C0 : jC p s args m meth c cc nL own isI D cA B EX adV Ln xs nc0) {pc k : Nat} {ls : Array Slot} {L : jL} (hL : jLok B EX nL L ls) (hm : (own, k, 1009) ∈ jlm) (hd : decode cc pc = .ok (.invokestatic k, 3)) (hR : 10 ≤ R.frames ∧ 400 ≤ R.locals)
    {As rest : List Value} {h h' : jH} {r : Option Value} (hrest : jcats rest ≤ 8) (hp : jprim 9 As h = some (r, h')) : jRule p l en R s m args below meth c Q D cA B EX Ln xs nc0 ns0 pc ls As rest h r h' := by
  obtain ⟨hx, hb, hml, hown, hin, hts, hK, hBs, hsz, hF, hlk⟩ := C0
  replace hp : (match (generalizing := false) As with
    | [.long x, .long y] => (some (some (.long (if y < x then x else y)), h) : Option (Option Value × jH))
    | _ => none) = some (r, h') := hp
  split at hp
  · rename_i x y
    cases hp
    intro H locs cells slots hP hS hc hs hz hR2 kk
    show W p l en R s m args below meth c H locs cells slots Q (F0 m pc ls (.long y :: .long x :: rest.map (jcv B EX)))
    refine va_mmax_long hx hb (by rw [hml]; exact hL.1.1.symm) hown (hts _ (jGm (jlm_ok _ hm) rfl)) (hts _ (jGm (jT 867 (by decide +kernel)) rfl)) (hts _ (jGm (jT 19 (by decide +kernel)) rfl)) (hts _ (jGm (jT 868 rfl) rfl)) (by omega) (by rw [jcv_cats]; omega) (by omega) (by omega) hd ?_
    exact kk _ _ _ _ hP hS hc hs hz
  · cases hp
set_option maxRecDepth 100000 in
theorem jr_10 (C0 : jC p s args m meth c cc nL own isI D cA B EX adV Ln xs nc0) {pc k : Nat} {ls : Array Slot} {L : jL} (hL : jLok B EX nL L ls) (hm : (own, k, 1010) ∈ jlm) (hd : decode cc pc = .ok (.invokestatic k, 3)) (hR : 10 ≤ R.frames ∧ 400 ≤ R.locals)
    {As rest : List Value} {h h' : jH} {r : Option Value} (hrest : jcats rest ≤ 8) (hp : jprim 10 As h = some (r, h')) : jRule p l en R s m args below meth c Q D cA B EX Ln xs nc0 ns0 pc ls As rest h r h' := by
  obtain ⟨hx, hb, hml, hown, hin, hts, hK, hBs, hsz, hF, hlk⟩ := C0
  replace hp : (match (generalizing := false) As with
    | [.long x, .long y] => (some (some (.long (if y < x then y else x)), h) : Option (Option Value × jH))
    | _ => none) = some (r, h') := hp
  split at hp
  · rename_i x y
    cases hp
    intro H locs cells slots hP hS hc hs hz hR2 kk
    show W p l en R s m args below meth c H locs cells slots Q (F0 m pc ls (.long y :: .long x :: rest.map (jcv B EX)))
    refine va_mmin_long hx hb (by rw [hml]; exact hL.1.1.symm) hown (hts _ (jGm (jlm_ok _ hm) rfl)) (hts _ (jGm (jT 864 (by decide +kernel)) rfl)) (hts _ (jGm (jT 19 (by decide +kernel)) rfl)) (hts _ (jGm (jT 865 rfl) rfl)) (by omega) (by rw [jcv_cats]; omega) (by omega) (by omega) hd ?_
    exact kk _ _ _ _ hP hS hc hs hz
  · cases hp
/-- the two texts' length and charAt: proved apart -/
def jPstr (l : Launch) (D : va_G) (cA : Nat → ClassId) (B : Nat) (EX adV : Nat → Nat) (Ln : Nat) (xs : Nat → Int32) : Prop :=
  ∀ {p : Program} {en : Env} {R : Room} {s : State} {m : MethodId} {args : Array Value} {below : List Frame} {meth : Method} {c : Code} {Q : State → Prop} {cc : ByteArray} {nL own : Nat} {isI : Bool} {nc0 ns0 : Nat}, jC p s args m meth c cc nL own isI D cA B EX adV Ln xs nc0 →
    ∀ {pc k : Nat} {ls : Array Slot} {L : jL} {id : Nat}, jLok B EX nL L ls → (id = 2 ∨ id = 3) → (own, k, 1000 + id) ∈ jlm → decode cc pc = .ok (.invokevirtual k, 3) → (10 ≤ R.frames ∧ 400 ≤ R.locals) →
    ∀ {As rest : List Value} {h h' : jH} {r : Option Value}, jcats rest ≤ 8 → jprim id As h = some (r, h') → jRule p l en R s m args below meth c Q D cA B EX Ln xs nc0 ns0 pc ls As rest h r h'
/-- the wrapper that catches: proved apart, for the law alone -/
def jPcell (p : Program) (l : Launch) (en : Env) (R : Room) (s : State) (m : MethodId) (args : Array Value) (below : List Frame) (meth : Method) (c : Code) (Q : State → Prop) (cc : ByteArray) (nL : Nat) (D : va_G) (cA : Nat → ClassId) (B : Nat) (EX : Nat → Nat) (Ln : Nat) (xs : Nat → Int32) (nc0 ns0 : Nat) : Prop :=
  ∀ {n Dp rk pc k : Nat} {ls : Array Slot} {L : jL}, jLok B EX nL L ls → (14, k, 1004) ∈ jlm → decode cc pc = .ok (.invokestatic k, 3) → (rk + Dp + 10 ≤ R.frames ∧ 40 * (rk + Dp) + 400 ≤ R.locals) →
    ∀ {As rest : List Value} {h h' : jH} {r : Option Value}, jcats rest ≤ 8 → jinv (jrun n) Dp rk 1004 As h = some (r, h') → jRule p l en R s m args below meth c Q D cA B EX Ln xs nc0 ns0 pc ls As rest h r h'
def jBody (l : Launch) (D : va_G) (cA : Nat → ClassId) (B : Nat) (EX adV : Nat → Nat) (Ln : Nat) (xs : Nat → Int32) (n : Nat) : Prop :=
  ∀ {p : Program} {en : Env} {R : Room} {s : State} {m : MethodId} {args : Array Value} {below : List Frame} {meth : Method} {c : Code} {Q : State → Prop} {cc : ByteArray} {own : Nat} {isI : Bool} {nc0 ns0 : Nat} {Dp mid pc : Nat} {L : jL} {S : List Value} {h : jH} {x : jO × jH} {M : jM} {pcs : List (Nat × Nat)},
    jrun n Dp mid pc L S h = some x → jnth jmeth mid = some M → jokc own isI cc pcs 0 M.1 = true → jC p s args m meth c cc M.2.1 own isI D cA B EX adV Ln xs nc0 → (M.2.2.2.2.1 + Dp + 10 ≤ R.frames ∧ 40 * (M.2.2.2.2.1 + Dp) + 400 ≤ R.locals) →
    (x.2.2.1 ≤ nc0 + R.cells ∧ x.2.2.2.1 ≤ ns0 + R.slots) → (own = 14 → jPcell p l en R s m args below meth c Q cc M.2.1 D cA B EX Ln xs nc0 ns0) →
    ∀ {H : Heap} {locs : List Loc} {ls : Array Slot} {cells slots : Nat}, va_P D jcls (jws cA B EX h.1) H → va_S (fun q => B ≤ q) s.heap H locs → jLok B EX M.2.1 L ls → cells + nc0 = h.2.1 → slots + ns0 = h.2.2.1 → h.2.2.2 = (Ln, xs) →
    (∀ {pc' : Nat} {e' : jI} {S' : List Value} {h' : jH} {H' : Heap} {locs' : List Loc} {ls' : Array Slot} {cells' slots' : Nat}, jfet M pc' = some e' → jret M.2.2.2.2.2.2 e' S' h' = some x → va_P D jcls (jws cA B EX h'.1) H' → va_S (fun q => B ≤ q) s.heap H' locs' → cells' + nc0 = h'.2.1 → slots' + ns0 = h'.2.2.1 → W p l en R s m args below meth c H' locs' cells' slots' Q (F0 m (jpc pcs pc') ls' (S'.map (jcv B EX)))) →
    W p l en R s m args below meth c H locs cells slots Q (F0 m (jpc pcs pc) ls (S.map (jcv B EX)))
/-- a method's contract, out of its run -/
theorem jMet_of {n : Nat} (IH : jBody l D cA B EX adV Ln xs n) {a D2 : Nat} {as : List Value} {h h' : jH} {r : Option Value} {M : jM} {Y : jK} (hM : jnth jmeth a = some M) (hok : jMok M Y) (hlay : (jlay as).1.length ≤ M.2.1) (ho14 : Y.2.2.2.1 ≠ 14)
    (hrun : jrun n D2 a 0 (jpad (jlay as) M.2.1 M.2.2.1) [] h = some (.inl r, h')) :
    Met l Y.1 (jTs M Y) (jroom M.2.2.2.2.1 D2 (h'.2.1 - h.2.1) (h'.2.2.1 - h.2.2.1)) (va_Pc (as.map (jcv B EX)) (jWld D cA B EX adV Ln xs h)) (jQc D cA B EX h' r) (h'.2.1 - h.2.1) (h'.2.2.1 - h.2.2.1) (fun q => B ≤ q) := by
  obtain ⟨hpl, hcl, hret, hokc, hpc0, hini⟩ := hok
  refine Met.ofW (cc := Y.2.1) (maxL := M.2.1) (ret := Y.2.2.1) hpl rfl ?_
  intro p e s m args below meth c s₁ B0 hml hv
  obtain ⟨rfl, hP, hK, hBs, hsz, hF, hz⟩ := hv
  have hx := B0.exec
  have hb := B0.bytes
  have hr := B0.returns
  have hts := atoms_spec (ws := jTs M Y) B0.pre
  have hown : s.vm.findClass (jown.getD Y.2.2.2.1 "") = some m.cls := by rw [← hcl]; exact findClass_of_methodNamed B0.named
  have hlocks := B0.notSynchronized
  have hnm : meth.name = Y.1.name := (name_of_methodNamed B0.named B0.method).1
  have hle := jrun_le hrun
  have C0 : jC p s (as.map (jcv B EX)).toArray m meth c Y.2.1 M.2.1 Y.2.2.2.1 (Nat.beq Y.2.2.2.2.1 2) D cA B EX adV Ln xs h.2.1 :=
    ⟨hx, hb, hml, hown, fun h2 => by rw [hnm]; exact hini (Nat.eq_of_beq_eq_true h2), fun w hw => hts w (List.mem_cons_of_mem _ hw), hK, hBs, hsz, hF, hlocks⟩
  rw [lg_entry_eq]
  have hp0 : jpc Y.2.2.2.2.2 0 = 0 := by
    unfold jpc
    cases hq : jnth Y.2.2.2.2.2 0 with
    | none => simp [hq] at hpc0
    | some q => rw [hq] at hpc0; exact Option.some.inj hpc0
  have hgo := IH (p := p) (en := e) (R := jroom M.2.2.2.2.1 D2 (h'.2.1 - h.2.1) (h'.2.2.1 - h.2.2.1)) (s := s) (m := m) (args := (as.map (jcv B EX)).toArray) (below := below) (meth := meth) (c := c)
    (Q := MQ below (jQc D cA B EX h' r) (as.map (jcv B EX)).toArray s (h'.2.1 - h.2.1) (h'.2.2.1 - h.2.2.1) (fun q => B ≤ q)) (ns0 := h.2.2.1) hrun hM hokc C0 ⟨Nat.le_refl _, Nat.le_refl _⟩ ⟨by show h'.2.1 ≤ h.2.1 + (h'.2.1 - h.2.1); omega, by show h'.2.2.1 ≤ h.2.2.1 + (h'.2.2.1 - h.2.2.1); omega⟩ (fun h14 => absurd h14 ho14)
    (H := s.heap) (locs := []) (cells := 0) (slots := 0) hP va_S.rf (jLok.entry B EX hlay) (Nat.zero_add _) (Nat.zero_add _) hz ?_
  · rw [hp0] at hgo
    exact hgo
  · intro pc' e' S' hh H' locs' ls' cells' slots' hfe hre hP' hS' hc' hs'
    have hob := jok_at hokc hfe
    unfold jokb at hob
    cases hp : jnth Y.2.2.2.2.2 pc' with
    | none => rw [hp] at hob; cases hob
    | some q =>
    obtain ⟨pc, len⟩ := q
    rw [hp] at hob
    dsimp only at hob
    rw [Bool.and_eq_true] at hob
    obtain ⟨hd, hrr⟩ := hob
    replace hd := of_decide_eq_true hd
    have hpc : jpc Y.2.2.2.2.2 pc' = pc := by simp [jpc, hp]
    rw [hpc]
    have hend : hh = h' → cells' = h'.2.1 - h.2.1 ∧ slots' = h'.2.2.1 - h.2.2.1 := fun e => by subst e; exact ⟨by omega, by omega⟩
    have hf : ∀ q ∈ locs', (fun q => B ≤ q) q.base := hS'.2.2
    unfold jret at hre
    split at hre
    · rename_i hi
      rw [hi] at hd
      split at hre
      · rename_i y
        split at hre
        · rename_i hrk
          cases hre
          obtain ⟨rfl, rfl⟩ := hend rfl
          have hd1 : decode Y.2.1 pc = .ok (.ireturn, 1) := by rw [hi] at hrr; rw [Nat.eq_of_beq_eq_true hrr] at hd; exact hd
          have hrt : meth.sig.returnType = some .int := by rw [hr, hret, hrk]; rfl
          exact W.iret hx hb hrt (fun t ht hW => ⟨⟨y, (), rfl, rfl, by show va_P _ _ _ t.heap; rw [ht]; exact hP'⟩, hS'.F ht⟩) hf hd1
        · rename_i hrk
          split at hre
          · rename_i hy
            cases hre
            obtain ⟨rfl, rfl⟩ := hend rfl
            have hd1 : decode Y.2.1 pc = .ok (.ireturn, 1) := by rw [hi] at hrr; rw [Nat.eq_of_beq_eq_true hrr] at hd; exact hd
            have hrt : meth.sig.returnType = some .boolean := by rw [hr, hret, hrk]; rfl
            exact W.zret hx hb hrt (jz_narrow hy) (fun t ht hW => ⟨⟨y, (), rfl, rfl, by show va_P _ _ _ t.heap; rw [ht]; exact hP'⟩, hS'.F ht⟩) hf hd1
          · cases hre
        · cases hre
      · cases hre
    · rename_i hi
      rw [hi] at hd
      split at hre
      · rename_i y
        split at hre
        · rename_i hrk
          cases hre
          obtain ⟨rfl, rfl⟩ := hend rfl
          have hd1 : decode Y.2.1 pc = .ok (.lreturn, 1) := by rw [hi] at hrr; rw [Nat.eq_of_beq_eq_true hrr] at hd; exact hd
          have hrt : meth.sig.returnType = some .long := by rw [hr, hret, hrk]; rfl
          exact W.lret hx hb hrt (fun t ht hW => ⟨⟨y, (), rfl, rfl, by show va_P _ _ _ t.heap; rw [ht]; exact hP'⟩, hS'.F ht⟩) hf hd1
        · cases hre
      · cases hre
    · rename_i hi
      rw [hi] at hd
      split at hre
      · split at hre
        · rename_i hrk
          cases hre
          obtain ⟨rfl, rfl⟩ := hend rfl
          have hd1 : decode Y.2.1 pc = .ok (.return_, 1) := by rw [hi] at hrr; rw [Nat.eq_of_beq_eq_true hrr] at hd; exact hd
          have hrt : meth.sig.returnType = none := by rw [hr, hret, hrk]; rfl
          exact W.vret hx hb hrt (fun t ht hW => ⟨⟨(), rfl, trivial, by show va_P _ _ _ t.heap; rw [ht]; exact hP'⟩, hS'.F ht⟩) hf hd1
        · cases hre
      · cases hre
    · rename_i hi
      rw [hi] at hrr
      cases hrr
    · cases hre
end JB
