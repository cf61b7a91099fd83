abbrev jCX : Type := (Nat → Int32) × (Nat → Nat → Int32) × (Nat → Nat → Int64) × (Nat → Nat → Int32) × (Nat → Nat → Nat → Int32) × (Nat → Nat → Int32) × (Nat → Nat → Nat → Int32) × Bool × Value
def jXt (c : jCX) (t : List jE) : List jE := jX c.1 c.2.1 c.2.2.1 c.2.2.2.1 c.2.2.2.2.1 c.2.2.2.2.2.1 c.2.2.2.2.2.2.1 c.2.2.2.2.2.2.2.1 c.2.2.2.2.2.2.2.2 t
def jpl (w : Bool) : Nat := bif w then 24 else 5
def jq (w : Bool) : Nat := bif w then 1 else 0
def jtxt (k i : Nat) : Nat := match jnth jstrs k with
  | some t => t.getD i 0
  | none => 0
theorem jlt3 {j : Nat} (h : j < 3) : j = 0 ∨ j = 1 ∨ j = 2 := by omega
theorem jev_prig {D mid pc : Nat} {L : jL} {S : List Value} {h : jH} {a nx : Nat} {As rest : List Value} (hc : jchp mid pc S h = some (a, As, nx, rest)) {q : Prop} {_ : Decidable q} {r : Option Value} {h' : jH} (hr : jprim a As h = if q then none else some (r, h')) :
    jev D mid pc L S h = if q then none else jev D mid nx L (r.toList ++ rest) h' := by
  by_cases hq : q
  · rw [if_pos hq] at hr ⊢
    unfold jchp at hc
    rw [jev_go]
    unfold jgo
    split at hc
    · cases hc
    · rename_i M hM
      simp only [hM]
      split at hc
      · cases hc
      · rename_i e he
        simp only [he]
        split at hc
        · rename_i hk
          simp only [hk]
          obtain ⟨hg, hc⟩ := jbo hc
          simp only [Bool.and_eq_true] at hg
          obtain ⟨rfl, rfl, rfl, rfl⟩ := jsome4 hc
          have h1 : ¬ e.2.2.1 < 1000 := by
            intro q
            have q2 : Nat.blt e.2.2.1 1000 = true := Nat.ble_eq_true_of_le q
            rw [q2] at hg
            exact absurd hg.1.2 (by decide)
          have h2 : e.2.2.1 ≠ 1004 := by
            intro q
            have q2 : Nat.beq e.2.2.1 1004 = true := by rw [q]; rfl
            rw [q2] at hg
            exact absurd hg.2 (by decide)
          have h3 : (Nat.ble e.2.2.2.1 S.length && Nat.ble (jcats (S.drop e.2.2.2.1)) 8) = true := by simp [hg.1.1]
          simp only [h3, cond_true]
          rw [jprim_of h1 h2, hr]
        · cases hc
  · rw [if_neg hq] at hr ⊢
    exact jev_prim hc hr
/-- what goes on behind a call -/
def jbO (o : Option (jO × jH)) (k : Option Value → jH → Option (jO × jH)) : Option (jO × jH) := match o with
  | some (.inl r, h) => k r h
  | _ => none
noncomputable def jk (D mid nx : Nat) (L : jL) (rest : List Value) (r : Option Value) (h : jH) : Option (jO × jH) := jev D mid nx L (r.toList ++ rest) h
theorem jev_callb {D mid pc : Nat} {L : jL} {S : List Value} {h : jH} {a D2 nx : Nat} {L0 : jL} {rest : List Value} (hc : jchk D mid pc S h = some (a, D2, L0, nx, rest)) :
    jev D mid pc L S h = jbO (jev D2 a 0 L0 [] h) (jk D mid nx L rest) := by
  unfold jchk at hc
  rw [jev_go]
  unfold jgo
  split at hc
  · cases hc
  · rename_i M hM
    simp only [hM]
    split at hc
    · cases hc
    · rename_i e he
      simp only [he]
      split at hc
      · rename_i hk
        simp only [hk]
        obtain ⟨hg, hc⟩ := jbo hc
        rw [Bool.and_eq_true] at hg
        simp only [hg.1, cond_true]
        split at hc
        · cases hc
        · rename_i M2 hM2
          obtain ⟨hg2, hc⟩ := jbo hc
          split at hc
          · cases hc
          · rename_i D3 hD3
            cases hc
            unfold jinv
            simp only [hg.2, cond_true, hM2, hg2, hD3]
            generalize jev D2 e.2.2.1 0 (jpad (jlay (S.take e.2.2.2.1).reverse) M2.2.1 M2.2.2.1) [] h = o
            cases o with
            | none => rfl
            | some x => obtain ⟨r | k, h'⟩ := x <;> rfl
      · cases hc
theorem jbO_some {r : Option Value} {h : jH} {k : Option Value → jH → Option (jO × jH)} : jbO (some (.inl r, h)) k = k r h := rfl
theorem jbO_none {k : Option Value → jH → Option (jO × jH)} : jbO none k = none := rfl
theorem jbO_ite {q : Prop} {_ : Decidable q} {a b : Option (jO × jH)} {k : Option Value → jH → Option (jO × jH)} : jbO (if q then a else b) k = if q then jbO a k else jbO b k := by
  by_cases h : q
  · rw [if_pos h, if_pos h]
  · rw [if_neg h, if_neg h]
theorem jk_some {D mid nx : Nat} {L : jL} {rest : List Value} {v : Value} {h : jH} : jk D mid nx L rest (some v) h = jev D mid nx L (v :: rest) h := rfl
theorem jk_none {D mid nx : Nat} {L : jL} {rest : List Value} {h : jH} : jk D mid nx L rest none h = jev D mid nx L rest h := rfl
def jfinO (mid pc : Nat) (S : List Value) (h : jH) : Option (Option (jO × jH)) := match jnth jmeth mid with
  | none => none
  | some M => match jfet M pc with
    | none => none
    | some e => match jkind e with
      | 1 => some (jret M.2.2.2.2.2.2 e S h)
      | _ => none
theorem jev_fing {D mid pc : Nat} {L : jL} {S : List Value} {h : jH} {y : Option (jO × jH)} (hs : jfinO mid pc S h = some y) : jev D mid pc L S h = y := by
  unfold jfinO at hs
  rw [jev_go]
  unfold jgo
  split at hs
  · cases hs
  · rename_i M hM
    simp only [hM]
    split at hs
    · cases hs
    · rename_i e he
      simp only [he]
      split at hs
      · rename_i hk
        simp only [hk]
        exact Option.some.inj hs
      · cases hs
