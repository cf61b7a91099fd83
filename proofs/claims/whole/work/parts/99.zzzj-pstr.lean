-- THE TEXTS: what jbody asks of them
set_option maxRecDepth 100000 in
theorem jPstr_ok {l : Launch} {D : va_G} {cA : Nat → ClassId} {B : Nat} {EX adV : Nat → Nat} {Ln : Nat} {xs : Nat → Int32} : jPstr l D cA B EX adV Ln xs := by
  intro p en R s m args below meth c Q cc nL own isI nc0 ns0 C0 pc k ls L id hL hid hm hd hR As rest h h' r hrest hp
  rcases hid with rfl | rfl
  · replace hp : (match (generalizing := false) As with
      | [.retAddr (k + 1)] => match jnth jstrs (k + 1) with
        | some t => (some (some (.int (Int32.ofNat t.length)), h) : Option (Option Value × jH))
        | none => none
      | _ => none) = some (r, h') := hp
    split at hp
    · rename_i q
      match q, hp with
      | 0, hp =>
        have h3 : (some (some (.int (Int32.ofNat (jlen2.getD 0 0))), h) : Option (Option Value × jH)) = some (r, h') := hp
        cases h3
        show jRule p l en R s m args below meth c Q D cA B EX Ln xs nc0 ns0 pc ls [.retAddr (0 + 1)] rest h (some (.int (Int32.ofNat (jlen2.getD 0 0)))) h
        exact jr_len (i := 0) C0 (by omega) hL hm hd hR hrest
      | 1, hp =>
        have h3 : (some (some (.int (Int32.ofNat (jlen2.getD 1 0))), h) : Option (Option Value × jH)) = some (r, h') := hp
        cases h3
        show jRule p l en R s m args below meth c Q D cA B EX Ln xs nc0 ns0 pc ls [.retAddr (1 + 1)] rest h (some (.int (Int32.ofNat (jlen2.getD 1 0)))) h
        exact jr_len (i := 1) C0 (by omega) hL hm hd hR hrest
      | n + 2, hp => exact (by
        have h3 : (none : Option (Option Value × jH)) = some (r, h') := hp
        cases h3)
    · cases hp
  · replace hp : (match (generalizing := false) As with
      | [.retAddr k, .int i] => match jnth jstrs k with
        | some t => if jout i t.length then none else (some (some (.int (Int32.ofNat (t.getD i.toNatClampNeg 0))), h) : Option (Option Value × jH))
        | none => none
      | _ => none) = some (r, h') := hp
    split at hp
    · rename_i q i
      match q, hp with
      | 0, hp =>
        exfalso
        exact (jdo (q := jout i 0) hp).1 (Or.inr (Nat.zero_le _))
      | 1, hp =>
        obtain ⟨h1, h2⟩ := jdo (q := jout i (jlen2.getD 0 0)) hp
        have hlen := jlen2_lt 0 (by omega)
        rcases jout_dec i (jlen2.getD 0 0) (by omega) with ho | ⟨j, hj, rfl⟩
        · exfalso
          exact h1 ho
        · have h3 : (some (some (.int (Int32.ofNat ((jstrs.getD 1 []).getD (Int32.ofNat j).toNatClampNeg 0))), h) : Option (Option Value × jH)) = some (r, h') := h2
          rw [jclamp (by omega)] at h3
          cases h3
          show jRule p l en R s m args below meth c Q D cA B EX Ln xs nc0 ns0 pc ls [.retAddr (0 + 1), .int (Int32.ofNat j)] rest h (some (.int (Int32.ofNat ((jstrs.getD (0 + 1) []).getD j 0)))) h
          exact jr_chr (i := 0) C0 (by omega) hj hL hm hd hR hrest
      | 2, hp =>
        obtain ⟨h1, h2⟩ := jdo (q := jout i (jlen2.getD 1 0)) hp
        have hlen := jlen2_lt 1 (by omega)
        rcases jout_dec i (jlen2.getD 1 0) (by omega) with ho | ⟨j, hj, rfl⟩
        · exfalso
          exact h1 ho
        · have h3 : (some (some (.int (Int32.ofNat ((jstrs.getD 2 []).getD (Int32.ofNat j).toNatClampNeg 0))), h) : Option (Option Value × jH)) = some (r, h') := h2
          rw [jclamp (by omega)] at h3
          cases h3
          show jRule p l en R s m args below meth c Q D cA B EX Ln xs nc0 ns0 pc ls [.retAddr (1 + 1), .int (Int32.ofNat j)] rest h (some (.int (Int32.ofNat ((jstrs.getD (1 + 1) []).getD j 0)))) h
          exact jr_chr (i := 1) C0 (by omega) hj hL hm hd hR hrest
      | n + 3, hp => exact (by
        have h3 : (none : Option (Option Value × jH)) = some (r, h') := hp
        cases h3)
    · cases hp
