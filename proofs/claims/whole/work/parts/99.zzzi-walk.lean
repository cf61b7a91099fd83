-- THE LAW's RUN IN THE MACHINE, but for the two texts' methods and the wrapper that catches
set_option maxRecDepth 100000 in
theorem whole_open {p : Program} {e : Env} {s : State} {m : MethodId} {below : List Frame} {meth : Method} {c : Code} (l : Launch) {b L : Nat} {xs : Nat → Int32} {Q : State → Prop} (hL : L ≤ 3072) (hx : p.tables.exec = Jvm.exec) (hb : c.code = code) (hml : c.maxLocals = 7) (hown : s.vm.findClass "CrowRotaLaw" = some m.cls) (hts : ∀ w ∈ lw_tbl, w.before #[Value.ref b] s = true) (hX : va_X b L xs s s.heap) (hbl : b < s.heap.size) (hlocks : meth.locks = false) (hgv : (Jvm.Cond.and given_1 narrow_1).before #[Value.ref b] s = true)
    (hPs : ∀ (D : va_G) (cA : Nat → ClassId) (EX adV : Nat → Nat), jPstr l D cA s.heap.size EX adV L xs)
    (hcell : ∀ (D : va_G) (cA : Nat → ClassId) (EX adV : Nat → Nat) (n : Nat), jC p s #[Value.ref b] m meth c code 7 14 false D cA s.heap.size EX adV L xs 0 → jPcell p l e room_1 s m #[Value.ref b] below meth c Q code 7 D cA s.heap.size EX L xs 0 0)
    (hfin : ∀ (pc : Nat) (H : Heap) (ls : Array Slot), decode code pc = .ok (.ireturn, 1) → W p l e room_1 s m #[Value.ref b] below meth c H [] 601024 7293034 Q (F0 m pc ls [.int 1])) :
    W p l e room_1 s m #[Value.ref b] below meth c s.heap [] 0 0 Q (entryFrame m ([Value.ref b] : List Value).toArray 7) := by
  obtain ⟨EX, adV, hEX, hFr⟩ := jFr_start hts hX hbl hgv
  obtain ⟨D, cA, hK⟩ := jK_start hts (hts _ (jT 124 (by decide +kernel))) (hts _ (jT 363 (by decide +kernel))) (hts _ (jT 1404 (by decide +kernel))) (hts _ (jT 164 (by decide +kernel)))
  obtain ⟨h', hrun, hc1, hs1⟩ := W_law (nn := L) (xs := xs) (by omega)
  obtain ⟨n, hn⟩ := jev_iff.mp hrun
  have C0 : jC p s #[Value.ref b] m meth c code 7 14 false D cA s.heap.size EX adV L xs 0 :=
    ⟨hx, hb, hml, hown, (fun h => nomatch h), fun w hw => hts w (List.mem_filter.mp hw).1, hK, Nat.le_refl _, Nat.le_refl _, hFr, hlocks⟩
  obtain ⟨hpl, hcl, hret, hokc, hpc0, hini⟩ := jok_245
  have hp0 : jpc jy_245.2.2.2.2.2 0 = 0 := by decide +kernel
  rw [lg_entry_eq]
  have hgo := jbody (hPs D cA EX adV) jMo_ok jMc_ok n (p := p) (en := e) (R := room_1) (s := s) (m := m) (args := #[Value.ref b]) (below := below) (meth := meth) (c := c) (Q := Q) (isI := false) (ns0 := 0) hn rfl hokc C0 ⟨by decide, by decide⟩ ⟨by show h'.2.1 ≤ 0 + 601024; omega, by show h'.2.2.1 ≤ 0 + 7293034; omega⟩ (fun _ => hcell D cA EX adV n C0)
    (H := s.heap) (locs := []) (cells := 0) (slots := 0) (fun k q h => by simp [jws] at h) va_S.rf (jLok.entry s.heap.size EX (args := [.retAddr 0]) (n := 7) (n2 := 0) (by decide)) rfl rfl rfl ?_
  · rw [hp0] at hgo
    have e0 : [Value.retAddr 0].map (jcv s.heap.size EX) = [Value.ref b] := by
      show [Value.ref (EX 0)] = _
      rw [hEX]
    rw [e0] at hgo
    exact hgo
  · intro pc' e' S' hh H' locs' ls' cells' slots' hfe hre hP' hS' hc' hs'
    have hob := jok_at hokc hfe
    unfold jokb at hob
    cases hp : jnth jy_245.2.2.2.2.2 pc' with
    | none => rw [hp] at hob; cases hob
    | some q =>
    obtain ⟨pc, len⟩ := q
    rw [hp] at hob
    dsimp only at hob
    rw [Bool.and_eq_true] at hob
    obtain ⟨hd, hrr⟩ := hob
    replace hd := of_decide_eq_true hd
    have hpc : jpc jy_245.2.2.2.2.2 pc' = pc := by simp [jpc, hp]
    rw [hpc]
    unfold jret at hre
    split at hre
    · rename_i hi
      rw [hi] at hd
      split at hre
      · rename_i y
        have hre2 : (if y = 0 ∨ y = 1 then some ((.inl (some (.int y)), hh) : jO × jH) else none) = some (.inl (some (.int 1)), h') := hre
        by_cases hy : y = 0 ∨ y = 1
        · rw [if_pos hy] at hre2
          cases hre2
          have hd1 : decode code pc = .ok (.ireturn, 1) := by rw [hi] at hrr; rw [Nat.eq_of_beq_eq_true hrr] at hd; exact hd
          refine va_forget hS'.2.2 ?_
          refine W.widen (k := 601024) (n := 7293034) (by omega) (by omega) ?_
          exact hfin pc H' ls' hd1
        · rw [if_neg hy] at hre2; cases hre2
      · cases hre
    · split at hre
      · cases hre
      · cases hre
    · split at hre
      · cases hre
      · cases hre
    · split at hre
      · cases hre
      · cases hre
    · cases hre
