-- THE START IN THE MACHINE: the classes, the arrays' classes
theorem jarr_t {ty : FieldType} {args : Array Value} {s : State} (h : (Cond.arrayClass ty).before args s = true) : ∃ (cA : ClassId) (kA : Class) (comp : ClassId), s.vm.findClass ("[" ++ ty.toString) = some cA ∧ s.vm.classes[cA]? = some kA ∧ kA.kind = .array comp ty := by
  simp only [Cond.before, Cond.holds, Cond.value, beq_iff_eq, Option.map_eq_some_iff, Option.bind_eq_some_iff] at h
  obtain ⟨k, ⟨c, hc, hk⟩, hb⟩ := h
  cases hkind : k.kind with
  | array component ty2 =>
    rw [hkind] at hb
    simp at hb
    exact ⟨c, k, component, hc, hk, by rw [hkind, hb]⟩
  | _ => rw [hkind] at hb; simp at hb
theorem jarr_p {ty : FieldType} {args : Array Value} {s : State} (h : (Cond.arrayClass ty).before args s = true) : ∃ cA : ClassId, ArrOfT s cA ty ∧ s.vm.findClass ("[" ++ ty.toString) = some cA := by
  obtain ⟨cA, kA, comp, h1, h2, h3⟩ := jarr_t h
  exact ⟨cA, fun n z => ⟨fun k h => (by cases h), kA, h2, comp, h3⟩, h1⟩
theorem jarr_o {C : String} {args : Array Value} {s : State} (h : (Cond.arrayOver (.object C)).before args s = true) : ∃ cA : ClassId, ArrOfT s cA (.object C) ∧ va_RA s cA (.object C) := by
  simp only [Cond.before, Cond.holds, Cond.value, beq_iff_eq] at h
  cases hc : s.vm.findClass C with
  | none => simp [hc] at h
  | some comp =>
    simp only [hc, Option.bind_some, Option.bind_eq_some_iff, Option.map_eq_some_iff] at h
    obtain ⟨c, hi, k, hk, hb⟩ := h
    obtain ⟨hlt, hp, -⟩ := Array.findIdx?_eq_some_iff_getElem.mp hi
    have hkk : s.vm.classes[c] = k := (Array.getElem?_eq_some_iff.mp hk).2
    rw [hkk] at hp
    cases hkind : k.kind with
    | array component ty =>
      rw [hkind] at hb hp
      simp at hb hp
      have hK : k.kind = .array comp (.object C) := by rw [hkind, hp, hb.1]
      exact ⟨c, fun n z => ⟨fun k h => (by cases h), k, hk, comp, hK⟩, k, comp, hk, hK, hc, hb.2⟩
    | _ => rw [hkind] at hb; simp at hb
theorem jK_start {args : Array Value} {s : State} (hts : ∀ w ∈ lw_tbl, w.before args s = true) (hi : (Cond.arrayClass .int).before args s = true) (hl : (Cond.arrayClass .long).before args s = true) (hb : (Cond.arrayClass .boolean).before args s = true) (ho : (Cond.arrayOver (.object "CrowRota$Law")).before args s = true) :
    ∃ (D : va_G) (cA : Nat → ClassId), va_K D jcls (jtys cA) s := by
  obtain ⟨a0, a1, a2⟩ := jarr_p hi
  obtain ⟨b0, b1, b2⟩ := jarr_p hl
  obtain ⟨c0, c1, c2⟩ := jarr_p hb
  obtain ⟨d0, d1, d2⟩ := jarr_o ho
  have hjG : ∀ w ∈ jG, w.before args s = true := fun w hw => hts w (List.mem_filter.mp hw).1
  have hk : ∀ c : Nat, ∃ q : ClassId × (Nat → Nat), c < 12 → u_Kn s (jclsn c).1 (jclsn c).2.1 (jclsn c).2.2 q.1 q.2 := by
    intro c
    by_cases hc : c < 12
    · obtain ⟨-, h2, -, -, h5, -⟩ := jCls_all hc
      obtain ⟨cC, iS, h⟩ := u_known hjG h2 (hjG _ h5)
      exact ⟨(cC, iS), fun _ => h⟩
    · exact ⟨(a0, fun _ => 0), fun e => absurd e hc⟩
  obtain ⟨g, hg⟩ := Classical.axiomOfChoice hk
  refine ⟨(fun c => (g c).1, fun c => (g c).2), fun k => if k = 0 then a0 else if k = 1 then b0 else if k = 2 then c0 else d0, ?_, ?_⟩
  · intro c q hq
    have hc : c < 12 := (List.getElem?_eq_some_iff.mp hq).1
    have h1 := (jCls_all hc).1
    rw [hq] at h1
    cases h1
    exact hg c hc
  · intro k q hq
    match k, hq with
    | 0, hq => cases hq; exact ⟨a1, a2⟩
    | 1, hq => cases hq; exact ⟨b1, b2⟩
    | 2, hq => cases hq; exact ⟨c1, c2⟩
    | 3, hq => cases hq; exact ⟨d1, d2⟩
    | n + 4, hq => simp [jtys] at hq
