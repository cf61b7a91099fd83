def jsteps (mid : Nat) : Nat → Nat → jL → List Value → jH → Option (Nat × jL × List Value × jH)
  | 0, pc, L, S, h => some (pc, L, S, h)
  | n + 1, pc, L, S, h => match jnth jmeth mid with
    | none => none
    | some M => match jfet M pc with
      | none => none
      | some e => match jkind e with
        | 0 => match jstep e L S h with
          | some (pc, L, S, h) => jsteps mid n pc L S h
          | none => none
        | _ => none
set_option maxRecDepth 100000 in
theorem tt1 (f : Nat → Int32) (g : Nat → Nat → Int32) (n2 : Nat → Nat → Int64) (p : Nat → Nat → Int32) (pa : Nat → Nat → Nat → Int32) (s : Nat → Nat → Int32) (sa : Nat → Nat → Nat → Int32) (sw : Bool) (rp : Value) (t : List jE) (z) (b c : Int32) :
  jsteps 79 3 4 ([some (.ref 49), some (.int b), some (.int c)], []) [] (jX f g n2 p pa s sa sw rp t, z) = some (if c < 30 then 7 else 20, ([some (.ref 49), some (.int b), some (.int c)], []), [], (jX f g n2 p pa s sa sw rp t, z)) := rfl
set_option maxRecDepth 100000 in
theorem tt2 (f : Nat → Int32) (g : Nat → Nat → Int32) (n2 : Nat → Nat → Int64) (p : Nat → Nat → Int32) (pa : Nat → Nat → Nat → Int32) (s : Nat → Nat → Int32) (sa : Nat → Nat → Nat → Int32) (sw : Bool) (rp : Value) (t : List jE) (z) :
  jsteps 81 10 0 ([some (.ref 61)], []) [] (jX f g n2 p pa s sa sw rp t, z) = some (if s 2 1 + 1 < 12 then 23 else 10, ([some (.ref 61)], []), [], (jX f g n2 p pa (jup s 2 (jup (s 2) 1 (s 2 1 + 1))) sa sw rp t, z)) := rfl
set_option maxRecDepth 100000 in
theorem tt3 (f : Nat → Int32) (g : Nat → Nat → Int32) (n2 : Nat → Nat → Int64) (p : Nat → Nat → Int32) (pa : Nat → Nat → Nat → Int32) (s : Nat → Nat → Int32) (sa : Nat → Nat → Nat → Int32) (sw : Bool) (rp : Value) (t : List jE) (z) :
  jsteps 81 12 10 ([some (.ref 61)], []) [] (jX f g n2 p pa s sa sw rp t, z) = some (22, ([some (.ref 61)], []), [.int 0, .ref 66], (jX f g n2 p pa (jup s 2 (jup (jup (s 2) 1 0) 0 (s 2 0 + 1))) sa sw rp t, z)) := rfl
