-- THE LAW: its frame
abbrev LW (m : Nat) (d5 d6 : Option Value) : jL := ([some (.retAddr 0), some (.ref 0), some (.ref 79), some (.ref 118), some (.int (Int32.ofNat m)), d5, d6], [])
def jOut (fo : Nat → Int64) : List jE := [.inl (1, 1, .inr (.inl fo))]
/-- a group of the script has gone well -/
def jWo (D m z0 z1 nn : Nat) (xs : Nat → Int32) (J : Option (jO × jH)) : Prop :=
  ∃ (d5 d6 : Option Value) (f : Nat → Int32) (g : Nat → Nat → Int32) (n2 : Nat → Nat → Int64) (p : Nat → Nat → Int32) (pa : Nat → Nat → Nat → Int32) (s : Nat → Nat → Int32) (sa : Nat → Nat → Nat → Int32) (sw : Bool) (rp : Value) (mf : Nat → Int32) (mg : Nat → Nat → Int32) (mn : Nat → Nat → Int64) (mb : Nat → Nat → Int32) (ml : Nat → Int64) (fo : Nat → Int64) (y0 y1 : Nat),
    J = jev D 245 926 (LW m d5 d6) [] (jX f g n2 p pa s sa sw rp (jY mf mg mn mb ml (jOut fo)), (y0, y1, nn, xs)) ∧ RR f g p pa s sa sw mf mg mb ∧ y0 ≤ z0 + 1 ∧ y1 ≤ z1 + 6
/-- a boolean out of a number -/
def jbz (x : Int32) : Int32 := if x = 0 then 0 else 1
theorem jbz01 (x : Int32) : jbz x = 0 ∨ jbz x = 1 := by
  unfold jbz
  by_cases h : x = 0
  · rw [if_pos h]; exact Or.inl rfl
  · rw [if_neg h]; exact Or.inr rfl
theorem lw_cmp {r : Int64} : lg_cmp r r = 0 := by
  unfold lg_cmp
  simp
theorem lw_ld {D m k pc pc1 pc2 nn z0 z1 : Nat} {kk : Int32} {xs : Nat → Int32} {d5 d6 : Option Value} {S : List Value} {c : List jE} (hk : kk = Int32.ofNat k)
    (h4 : jsteps 245 4 pc (LW m d5 d6) S (c, (z0, z1, nn, xs)) = some (pc1, LW m d5 d6, .int (Int32.ofNat m + kk) :: .retAddr 0 :: S, (c, (z0, z1, nn, xs))))
    (h5 : ∀ x, jone 245 pc1 (LW m d5 d6) (.int x :: .retAddr 0 :: S) (c, (z0, z1, nn, xs)) = some (if jout x nn then none else some (pc2, LW m d5 d6, .int (xs x.toNatClampNeg) :: S, (c, (z0, z1, nn, xs))))) (hl : m + k < nn) (hn : nn < 2147483648) :
    jev D 245 pc (LW m d5 d6) S (c, (z0, z1, nn, xs)) = jev D 245 pc2 (LW m d5 d6) (.int (xs (m + k)) :: S) (c, (z0, z1, nn, xs)) := by
  rw [jev_blk 4 h4, jev_grd (h5 _), hk, jofadd, if_neg (jout_n hl (by omega)), jclamp (by omega)]
theorem lw_b {D pc pc1 pc2 pc3 : Nat} {L : jL} {x : Int32} {S : List Value} {h : jH} (h1 : jsteps 245 1 pc L (.int x :: S) h = some (if x = 0 then pc2 else pc1, L, S, h)) (h2 : jsteps 245 2 pc1 L S h = some (pc3, L, .int 1 :: S, h)) (h3 : jsteps 245 1 pc2 L S h = some (pc3, L, .int 0 :: S, h)) :
    jev D 245 pc L (.int x :: S) h = jev D 245 pc3 L (.int (jbz x) :: S) h := by
  rw [jev_blk 1 h1, jev_ite]
  unfold jbz
  by_cases hx : x = 0
  · rw [if_pos hx, if_pos hx, jev_blk 1 h3]
  · rw [if_neg hx, if_neg hx, jev_blk 2 h2]
theorem lw_call {D pc nx : Nat} {L : jL} {S rest : List Value} {h h' : jH} {K : Option (jO × jH)} {r : Value} (hk : K = some (.inl (some r), h')) (hc : jev D 245 pc L S h = jbO K (jk D 245 nx L rest)) : jev D 245 pc L S h = jev D 245 nx L (r :: rest) h' := by
  rw [hc, hk]
  rfl
