-- EQUATIONS of the limit, a block at a time
def jsteps (mid : Nat) : Nat → Nat → jL → List Value → jH → Option (Nat × jL × List Value × jH)
  | 0, pc, L, S, h => some (pc, L, S, h)
  | n + 1, pc, L, S, h => match jnth jmeth mid with
    | none => none
    | some M => match jfet M pc with
      | none => none
      | some e => match jkind e with
        | 0 => match jstep e L S h with
          | some (pc, L, S, h) => jsteps mid n pc L S h
          | none => none
        | _ => none
theorem jev_blk {D mid : Nat} (n : Nat) {pc : Nat} {L : jL} {S : List Value} {h : jH} {pc' : Nat} {L' : jL} {S' : List Value} {h' : jH} (hs : jsteps mid n pc L S h = some (pc', L', S', h')) : jev D mid pc L S h = jev D mid pc' L' S' h' := by
  induction n generalizing pc L S h with
  | zero =>
    cases hs
    rfl
  | succ n ih =>
    unfold jsteps at hs
    rw [jev_go]
    unfold jgo
    split at hs
    · cases hs
    · rename_i M hM
      simp only [hM]
      split at hs
      · cases hs
      · rename_i e he
        simp only [he]
        split at hs
        · rename_i hk
          simp only [hk]
          split at hs
          · rename_i pc1 L1 S1 h1 hst
            simp only [hst]
            exact ih hs
          · cases hs
        · cases hs
theorem jev_ite {D mid : Nat} {q : Prop} {_ : Decidable q} {a b : Nat} {L : jL} {S : List Value} {h : jH} : jev D mid (if q then a else b) L S h = if q then jev D mid a L S h else jev D mid b L S h := by
  by_cases hq : q
  · rw [if_pos hq, if_pos hq]
  · rw [if_neg hq, if_neg hq]
theorem jite_congr {α : Type} {q : Prop} {_ : Decidable q} {a b a' b' : α} (h1 : q → a = a') (h2 : ¬ q → b = b') : (if q then a else b) = if q then a' else b' := by
  by_cases hq : q
  · rw [if_pos hq, if_pos hq]; exact h1 hq
  · rw [if_neg hq, if_neg hq]; exact h2 hq
/-- one instruction, what it asks in front -/
def jone (mid pc : Nat) (L : jL) (S : List Value) (h : jH) : Option (Option (Nat × jL × List Value × jH)) := match jnth jmeth mid with
  | none => none
  | some M => match jfet M pc with
    | none => none
    | some e => match jkind e with
      | 0 => some (jstep e L S h)
      | _ => none
/-- a guarded instruction -/
theorem jev_grd {D mid pc : Nat} {L : jL} {S : List Value} {h : jH} {q : Prop} {_ : Decidable q} {pc' : Nat} {L' : jL} {S' : List Value} {h' : jH} (hs : jone mid pc L S h = some (if q then none else some (pc', L', S', h'))) : jev D mid pc L S h = if q then none else jev D mid pc' L' S' h' := by
  unfold jone at hs
  rw [jev_go]
  unfold jgo
  split at hs
  · cases hs
  · rename_i M hM
    simp only [hM]
    split at hs
    · cases hs
    · rename_i e he
      simp only [he]
      split at hs
      · rename_i hk
        have hs := Option.some.inj hs
        simp only [hk, hs]
        by_cases hq : q
        · simp only [if_pos hq]
        · simp only [if_neg hq]
      · cases hs
theorem jev_grp {D mid pc : Nat} {L : jL} {S : List Value} {h : jH} {q : Prop} {_ : Decidable q} {pc' : Nat} {L' : jL} {S' : List Value} {h' : jH} (hs : jone mid pc L S h = some (if q then some (pc', L', S', h') else none)) : jev D mid pc L S h = if q then jev D mid pc' L' S' h' else none := by
  unfold jone at hs
  rw [jev_go]
  unfold jgo
  split at hs
  · cases hs
  · rename_i M hM
    simp only [hM]
    split at hs
    · cases hs
    · rename_i e he
      simp only [he]
      split at hs
      · rename_i hk
        have hs := Option.some.inj hs
        simp only [hk, hs]
        by_cases hq : q
        · simp only [if_pos hq]
        · simp only [if_neg hq]
      · cases hs
/-- an end -/
def jfin (mid pc : Nat) (S : List Value) (h : jH) : Option (jO × jH) := match jnth jmeth mid with
  | none => none
  | some M => match jfet M pc with
    | none => none
    | some e => match jkind e with
      | 1 => jret M.2.2.2.2.2.2 e S h
      | _ => none
theorem jev_fin {D mid pc : Nat} {L : jL} {S : List Value} {h : jH} {x : jO × jH} (hs : jfin mid pc S h = some x) : jev D mid pc L S h = some x := by
  unfold jfin at hs
  rw [jev_go]
  unfold jgo
  split at hs
  · cases hs
  · rename_i M hM
    simp only [hM]
    split at hs
    · cases hs
    · rename_i e he
      simp only [he]
      split at hs
      · rename_i hk
        simp only [hk]
        exact hs
      · cases hs
/-- a call of one of the methods: which one, at which depth, with which locals, where it goes on -/
def jchk (D mid pc : Nat) (S : List Value) (h : jH) : Option (Nat × Nat × jL × Nat × List Value) := match jnth jmeth mid with
  | none => none
  | some M => match jfet M pc with
    | none => none
    | some e => match jkind e with
      | 2 => bif Nat.ble e.2.2.2.1 S.length && Nat.ble (jcats (S.drop e.2.2.2.1)) 8 && Nat.blt e.2.2.1 1000 then match jnth jmeth e.2.2.1 with
          | none => none
          | some M2 => bif Nat.beq M2.2.2.2.1 (S.take e.2.2.2.1).reverse.length && jrecv M2 (S.take e.2.2.2.1).reverse h && Nat.ble (jlay (S.take e.2.2.2.1).reverse).1.length M2.2.1 then match jdep D M.2.2.2.2.1 M2.2.2.2.2.1 with
              | none => none
              | some D2 => some (e.2.2.1, D2, jpad (jlay (S.take e.2.2.2.1).reverse) M2.2.1 M2.2.2.1, e.2.1, S.drop e.2.2.2.1)
            else none
        else none
      | _ => none
theorem jev_call {D mid pc : Nat} {L : jL} {S : List Value} {h : jH} {a D2 nx : Nat} {L0 : jL} {rest : List Value} (hc : jchk D mid pc S h = some (a, D2, L0, nx, rest)) {r : Option Value} {h' : jH} (hr : jev D2 a 0 L0 [] h = some (.inl r, h')) :
    jev D mid pc L S h = jev D mid nx L (r.toList ++ rest) h' := by
  unfold jchk at hc
  rw [jev_go]
  unfold jgo
  split at hc
  · cases hc
  · rename_i M hM
    simp only [hM]
    split at hc
    · cases hc
    · rename_i e he
      simp only [he]
      split at hc
      · rename_i hk
        simp only [hk]
        obtain ⟨hg, hc⟩ := jbo hc
        rw [Bool.and_eq_true] at hg
        simp only [hg.1, cond_true]
        split at hc
        · cases hc
        · rename_i M2 hM2
          obtain ⟨hg2, hc⟩ := jbo hc
          split at hc
          · cases hc
          · rename_i D3 hD3
            cases hc
            unfold jinv
            simp only [hg.2, cond_true, hM2, hg2, hD3, hr]
      · cases hc
/-- a primitive -/
def jchp (mid pc : Nat) (S : List Value) (h : jH) : Option (Nat × List Value × Nat × List Value) := match jnth jmeth mid with
  | none => none
  | some M => match jfet M pc with
    | none => none
    | some e => match jkind e with
      | 2 => bif Nat.ble e.2.2.2.1 S.length && Nat.ble (jcats (S.drop e.2.2.2.1)) 8 && !Nat.blt e.2.2.1 1000 && !Nat.beq e.2.2.1 1004 then some (e.2.2.1 - 1000, (S.take e.2.2.2.1).reverse, e.2.1, S.drop e.2.2.2.1)
        else none
      | _ => none
theorem jev_prim {D mid pc : Nat} {L : jL} {S : List Value} {h : jH} {a nx : Nat} {As rest : List Value} (hc : jchp mid pc S h = some (a, As, nx, rest)) {r : Option Value} {h' : jH} (hr : jprim a As h = some (r, h')) :
    jev D mid pc L S h = jev D mid nx L (r.toList ++ rest) h' := by
  unfold jchp at hc
  rw [jev_go]
  unfold jgo
  split at hc
  · cases hc
  · rename_i M hM
    simp only [hM]
    split at hc
    · cases hc
    · rename_i e he
      simp only [he]
      split at hc
      · rename_i hk
        simp only [hk]
        obtain ⟨hg, hc⟩ := jbo hc
        simp only [Bool.and_eq_true] at hg
        obtain ⟨rfl, rfl, rfl, rfl⟩ := jsome4 hc
        have h1 : ¬ e.2.2.1 < 1000 := by
          intro q
          have q2 : Nat.blt e.2.2.1 1000 = true := Nat.ble_eq_true_of_le q
          rw [q2] at hg
          exact absurd hg.1.2 (by decide)
        have h2 : e.2.2.1 ≠ 1004 := by
          intro q
          have q2 : Nat.beq e.2.2.1 1004 = true := by rw [q]; rfl
          rw [q2] at hg
          exact absurd hg.2 (by decide)
        have h3 : (Nat.ble e.2.2.2.1 S.length && Nat.ble (jcats (S.drop e.2.2.2.1)) 8) = true := by simp [hg.1.1]
        simp only [h3, cond_true]
        rw [jprim_of h1 h2, hr]
      · cases hc
