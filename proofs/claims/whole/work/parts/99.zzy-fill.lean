-- THE START: rows filled, the words packed
theorem jnth_sety {α : Type} : ∀ {l : List α} {r : Nat} {x y : α}, jnth l r = some x → jnth (l.set r y) r = some y
  | _ :: _, 0, _, _, _ => rfl
  | _ :: l, r + 1, _, _, h => jnth_sety (l := l) (r := r) h
theorem jset_id {α : Type} : ∀ {l : List α} {r : Nat} {x : α}, jnth l r = some x → l.set r x = l
  | _ :: _, 0, _, h => by cases h; rfl
  | a :: l, r + 1, _, h => congrArg (List.cons a) (jset_id (l := l) (r := r) h)
theorem jfil_0 {v : Int32} {f : Nat → Int32} : jfil v 0 f = f := by
  funext i; unfold jfil; rw [if_neg (by omega)]
theorem jfil_up {v : Int32} {f : Nat → Int32} {k : Nat} : jup (jfil v k f) k v = jfil v (k + 1) f := by
  funext i
  unfold jup jfil
  by_cases h : i = k
  · rw [if_pos h, if_pos (by omega)]
  · rw [if_neg h]
    by_cases h2 : i < k
    · rw [if_pos h2, if_pos (by omega)]
    · rw [if_neg h2, if_neg (by omega)]
theorem Z_fill {D r n : Nat} {v : Int32} {f : Nat → Int32} {c : List jE} {z : Nat × Nat × Nat × (Nat → Int32)} (hn : n < 2147483648) (hr : jnth c r = some (.inl (0, n, .inl f))) :
    jev D 243 0 ([some (.ref r), some (.int v), none, none], []) [] (c, z) = some (.inl none, (c.set r (.inl (0, n, .inl (jfil v n f))), z)) := by
  have h0 : jev D 243 0 ([some (.ref r), some (.int v), none, none], []) [] (c, z) = jev D 243 5 ([some (.ref r), some (.int v), some (.int (Int32.ofNat 0)), some (.int (Int32.ofNat n))], []) [] (c, z) := by
    refine (jev_blk 3 (pc' := 3) (L' := ([some (.ref r), some (.int v), some (.int 0), none], [])) (S' := [.ref r]) (h' := (c, z)) rfl).trans ?_
    have h1 : jsteps 243 1 3 ([some (.ref r), some (.int v), some (.int 0), none], []) [.ref r] (c, z) = some (4, ([some (.ref r), some (.int v), some (.int 0), none], []), [.int (Int32.ofNat n)], (c, z)) := by
      show (match (match jnth c r with
        | some (.inl (t, x)) => bif Nat.ble t 3 then some (4, ([some (.ref r), some (.int v), some (.int 0), none], []), [Value.int (Int32.ofNat x.1)], (c, z)) else none
        | _ => none : Option (Nat × jL × List Value × jH)) with
        | some (pc, L, S, h) => jsteps 243 0 pc L S h
        | none => none) = _
      rw [hr]
      rfl
    refine (jev_blk 1 h1).trans ?_
    exact jev_blk 1 rfl
  have key : ∀ k, k ≤ n → jev D 243 5 ([some (.ref r), some (.int v), some (.int (Int32.ofNat 0)), some (.int (Int32.ofNat n))], []) [] (c, z) = jev D 243 5 ([some (.ref r), some (.int v), some (.int (Int32.ofNat k)), some (.int (Int32.ofNat n))], []) [] (c.set r (.inl (0, n, .inl (jfil v k f))), z) := by
    intro k
    induction k with
    | zero => intro _; rw [jfil_0, jset_id hr]
    | succ k ih =>
      intro hk
      rw [ih (by omega)]
      have hr2 := jnth_sety (y := (.inl (0, n, .inl (jfil v k f)) : jE)) hr
      generalize hc : c.set r (.inl (0, n, .inl (jfil v k f))) = c2 at hr2
      refine (jev_blk 3 (pc' := if Int32.ofNat k < Int32.ofNat n then 8 else 14) (L' := ([some (.ref r), some (.int v), some (.int (Int32.ofNat k)), some (.int (Int32.ofNat n))], [])) (S' := []) (h' := (c2, z)) rfl).trans ?_
      rw [if_pos (jlt_t (by omega) hn)]
      refine (jev_blk 3 (pc' := 11) (L' := ([some (.ref r), some (.int v), some (.int (Int32.ofNat k)), some (.int (Int32.ofNat n))], [])) (S' := [.int v, .int (Int32.ofNat k), .ref r]) (h' := (c2, z)) rfl).trans ?_
      have h2 : jone 243 11 ([some (.ref r), some (.int v), some (.int (Int32.ofNat k)), some (.int (Int32.ofNat n))], []) [.int v, .int (Int32.ofNat k), .ref r] (c2, z) = some (if jout (Int32.ofNat k) n then none else some (12, ([some (.ref r), some (.int v), some (.int (Int32.ofNat k)), some (.int (Int32.ofNat n))], []), [], jput (c2, z) r (.inl (0, n, .inl (jup (jfil v k f) (Int32.ofNat k).toNatClampNeg v))))) := by
        show some (match jnth c2 r with
          | some (.inl (0, n1, .inl f)) => if jout (Int32.ofNat k) n1 then none else some (12, ([some (.ref r), some (.int v), some (.int (Int32.ofNat k)), some (.int (Int32.ofNat n))], []), [], jput (c2, z) r (.inl (0, n1, .inl (jup f (Int32.ofNat k).toNatClampNeg v))))
          | _ => none : Option (Nat × jL × List Value × jH)) = _
        rw [hr2]
        rfl
      refine (jev_grd h2).trans ?_
      rw [if_neg (jout_n (by omega) (by omega)), jclamp (by omega), jfil_up]
      have hc3 : jput (c2, z) r (.inl (0, n, .inl (jfil v (k + 1) f))) = (c.set r (.inl (0, n, .inl (jfil v (k + 1) f))), z) := by
        show (c2.set r _, z) = _
        rw [← hc, List.set_set]
      rw [hc3]
      refine (jev_blk 2 (pc' := 5) (L' := ([some (.ref r), some (.int v), some (.int (Int32.ofNat k + 1)), some (.int (Int32.ofNat n))], [])) (S' := []) (h' := (c.set r (.inl (0, n, .inl (jfil v (k + 1) f))), z)) rfl).trans ?_
      rw [jsucc]
  rw [h0, key n (Nat.le_refl n)]
  refine (jev_blk 3 (pc' := if Int32.ofNat n < Int32.ofNat n then 8 else 14) (L' := ([some (.ref r), some (.int v), some (.int (Int32.ofNat n)), some (.int (Int32.ofNat n))], [])) (S' := []) (h' := (c.set r (.inl (0, n, .inl (jfil v n f))), z)) rfl).trans ?_
  rw [if_neg (jlt_n (by omega) hn)]
  exact jev_fin rfl
def jpk (pk : Int32) (l c : Nat) : Int32 := if l < 6 then pk ||| ((Int32.ofNat c - 97 + 1) <<< ((5 * (5 - Int32.ofNat l)) &&& 31)) else pk
theorem Z_pack {D l c : Nat} {pk : Int32} {h : jH} (hl : l < 2147483648) : jev D 86 0 ([some (.int pk), some (.int (Int32.ofNat l)), some (.int (Int32.ofNat c))], []) [] h = some (.inl (some (.int (jpk pk l c))), h) := by
  refine (jev_blk 3 (pc' := if Int32.ofNat l < 6 then 3 else 17) (L' := ([some (.int pk), some (.int (Int32.ofNat l)), some (.int (Int32.ofNat c))], [])) (S' := []) (h' := h) rfl).trans ?_
  unfold jpk
  by_cases h6 : l < 6
  · rw [if_pos h6, if_pos (show Int32.ofNat l < 6 from jlt_t (b := 6) h6 (by omega))]
    refine (jev_blk 7 (pc' := 10) (L' := ([some (.int pk), some (.int (Int32.ofNat l)), some (.int (Int32.ofNat c))], [])) (S' := [.int 5, .int (Int32.ofNat c - 97 + 1), .int pk]) (h' := h) rfl).trans ?_
    refine (jev_blk 7 (pc' := 18) (L' := ([some (.int pk), some (.int (Int32.ofNat l)), some (.int (Int32.ofNat c))], [])) (S' := [.int (pk ||| ((Int32.ofNat c - 97 + 1) <<< ((5 * (5 - Int32.ofNat l)) &&& 31)))]) (h' := h) rfl).trans ?_
    exact jev_fin rfl
  · rw [if_neg h6, if_neg (show ¬ Int32.ofNat l < 6 from jlt_n (b := 6) (by omega) hl)]
    refine (jev_blk 1 (pc' := 18) (L' := ([some (.int pk), some (.int (Int32.ofNat l)), some (.int (Int32.ofNat c))], [])) (S' := [.int pk]) (h' := h) rfl).trans ?_
    exact jev_fin rfl
