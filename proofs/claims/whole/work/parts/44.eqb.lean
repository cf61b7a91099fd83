-- EQUATIONS: one a block; E_ unfolds, L_ a loop's head
set_option maxRecDepth 20000 in
theorem E_w_add_15 {D : Nat} {w : Bool} {r : Nat} {d1 : Option Value} {d2 : Option Value} {u0 : Int32} {u1 : Int32} {f : Nat → Int32} {g : Nat → Nat → Int32} {n2 : Nat → Nat → Int64} {p : Nat → Nat → Int32} {pa : Nat → Nat → Nat → Int32} {s : Nat → Nat → Int32} {sa : Nat → Nat → Nat → Int32} {sw : Bool} {rp : Value} {t : List jE} {z : Nat × Nat × Nat × (Nat → Int32)} (hr : r < 3) : jev D 20 15 ([some (.ref ((jpl w) + (10 + 3 * r))), d1, d2], []) [.int u0, .int u1, .ref ((jpl w) + (11 + 3 * r + 1))] (jX f g n2 p pa s sa sw rp t, z) = if jout u1 64 then none else (some (.inl (none), (jX f g n2 (jup p (jq w) (jup (p (jq w)) (10 + r) (((p (jq w) (10 + r)) + 1)))) (jup pa (jq w) (jup (pa (jq w)) (8 + 2 * r + 1) ((jup (pa (jq w) (8 + 2 * r + 1)) (u1.toNatClampNeg) u0)))) s sa sw rp t, z))) := by
  cases w <;> rcases jlt3 hr with rfl | rfl | rfl
  · refine (jev_grd (q := jout u1 64) (pc' := 16) (L' := ([some (.ref ((jpl false) + (10 + 3 * 0))), d1, d2], [])) (S' := []) (h' := (jX f g n2 p (jup pa (jq false) (jup (pa (jq false)) (8 + 2 * 0 + 1) ((jup (pa (jq false) (8 + 2 * 0 + 1)) (u1.toNatClampNeg) u0)))) s sa sw rp t, z)) rfl).trans (jite_congr (fun _ => rfl) (fun _ => ?_))
    refine (jev_blk 6 (pc' := 22) (L' := ([some (.ref ((jpl false) + (10 + 3 * 0))), d1, d2], [])) (S' := []) (h' := (jX f g n2 (jup p (jq false) (jup (p (jq false)) (10 + 0) (((p (jq false) (10 + 0)) + 1)))) (jup pa (jq false) (jup (pa (jq false)) (8 + 2 * 0 + 1) ((jup (pa (jq false) (8 + 2 * 0 + 1)) (u1.toNatClampNeg) u0)))) s sa sw rp t, z)) rfl).trans ?_
    exact jev_fin rfl
  · refine (jev_grd (q := jout u1 64) (pc' := 16) (L' := ([some (.ref ((jpl false) + (10 + 3 * 1))), d1, d2], [])) (S' := []) (h' := (jX f g n2 p (jup pa (jq false) (jup (pa (jq false)) (8 + 2 * 1 + 1) ((jup (pa (jq false) (8 + 2 * 1 + 1)) (u1.toNatClampNeg) u0)))) s sa sw rp t, z)) rfl).trans (jite_congr (fun _ => rfl) (fun _ => ?_))
    refine (jev_blk 6 (pc' := 22) (L' := ([some (.ref ((jpl false) + (10 + 3 * 1))), d1, d2], [])) (S' := []) (h' := (jX f g n2 (jup p (jq false) (jup (p (jq false)) (10 + 1) (((p (jq false) (10 + 1)) + 1)))) (jup pa (jq false) (jup (pa (jq false)) (8 + 2 * 1 + 1) ((jup (pa (jq false) (8 + 2 * 1 + 1)) (u1.toNatClampNeg) u0)))) s sa sw rp t, z)) rfl).trans ?_
    exact jev_fin rfl
  · refine (jev_grd (q := jout u1 64) (pc' := 16) (L' := ([some (.ref ((jpl false) + (10 + 3 * 2))), d1, d2], [])) (S' := []) (h' := (jX f g n2 p (jup pa (jq false) (jup (pa (jq false)) (8 + 2 * 2 + 1) ((jup (pa (jq false) (8 + 2 * 2 + 1)) (u1.toNatClampNeg) u0)))) s sa sw rp t, z)) rfl).trans (jite_congr (fun _ => rfl) (fun _ => ?_))
    refine (jev_blk 6 (pc' := 22) (L' := ([some (.ref ((jpl false) + (10 + 3 * 2))), d1, d2], [])) (S' := []) (h' := (jX f g n2 (jup p (jq false) (jup (p (jq false)) (10 + 2) (((p (jq false) (10 + 2)) + 1)))) (jup pa (jq false) (jup (pa (jq false)) (8 + 2 * 2 + 1) ((jup (pa (jq false) (8 + 2 * 2 + 1)) (u1.toNatClampNeg) u0)))) s sa sw rp t, z)) rfl).trans ?_
    exact jev_fin rfl
  · refine (jev_grd (q := jout u1 64) (pc' := 16) (L' := ([some (.ref ((jpl true) + (10 + 3 * 0))), d1, d2], [])) (S' := []) (h' := (jX f g n2 p (jup pa (jq true) (jup (pa (jq true)) (8 + 2 * 0 + 1) ((jup (pa (jq true) (8 + 2 * 0 + 1)) (u1.toNatClampNeg) u0)))) s sa sw rp t, z)) rfl).trans (jite_congr (fun _ => rfl) (fun _ => ?_))
    refine (jev_blk 6 (pc' := 22) (L' := ([some (.ref ((jpl true) + (10 + 3 * 0))), d1, d2], [])) (S' := []) (h' := (jX f g n2 (jup p (jq true) (jup (p (jq true)) (10 + 0) (((p (jq true) (10 + 0)) + 1)))) (jup pa (jq true) (jup (pa (jq true)) (8 + 2 * 0 + 1) ((jup (pa (jq true) (8 + 2 * 0 + 1)) (u1.toNatClampNeg) u0)))) s sa sw rp t, z)) rfl).trans ?_
    exact jev_fin rfl
  · refine (jev_grd (q := jout u1 64) (pc' := 16) (L' := ([some (.ref ((jpl true) + (10 + 3 * 1))), d1, d2], [])) (S' := []) (h' := (jX f g n2 p (jup pa (jq true) (jup (pa (jq true)) (8 + 2 * 1 + 1) ((jup (pa (jq true) (8 + 2 * 1 + 1)) (u1.toNatClampNeg) u0)))) s sa sw rp t, z)) rfl).trans (jite_congr (fun _ => rfl) (fun _ => ?_))
    refine (jev_blk 6 (pc' := 22) (L' := ([some (.ref ((jpl true) + (10 + 3 * 1))), d1, d2], [])) (S' := []) (h' := (jX f g n2 (jup p (jq true) (jup (p (jq true)) (10 + 1) (((p (jq true) (10 + 1)) + 1)))) (jup pa (jq true) (jup (pa (jq true)) (8 + 2 * 1 + 1) ((jup (pa (jq true) (8 + 2 * 1 + 1)) (u1.toNatClampNeg) u0)))) s sa sw rp t, z)) rfl).trans ?_
    exact jev_fin rfl
  · refine (jev_grd (q := jout u1 64) (pc' := 16) (L' := ([some (.ref ((jpl true) + (10 + 3 * 2))), d1, d2], [])) (S' := []) (h' := (jX f g n2 p (jup pa (jq true) (jup (pa (jq true)) (8 + 2 * 2 + 1) ((jup (pa (jq true) (8 + 2 * 2 + 1)) (u1.toNatClampNeg) u0)))) s sa sw rp t, z)) rfl).trans (jite_congr (fun _ => rfl) (fun _ => ?_))
    refine (jev_blk 6 (pc' := 22) (L' := ([some (.ref ((jpl true) + (10 + 3 * 2))), d1, d2], [])) (S' := []) (h' := (jX f g n2 (jup p (jq true) (jup (p (jq true)) (10 + 2) (((p (jq true) (10 + 2)) + 1)))) (jup pa (jq true) (jup (pa (jq true)) (8 + 2 * 2 + 1) ((jup (pa (jq true) (8 + 2 * 2 + 1)) (u1.toNatClampNeg) u0)))) s sa sw rp t, z)) rfl).trans ?_
    exact jev_fin rfl
set_option maxRecDepth 20000 in
theorem E_w_join {D : Nat}  {a0 : Int32} {a1 : Int64} {a2 : Int64} {f : Nat → Int32} {g : Nat → Nat → Int32} {n2 : Nat → Nat → Int64} {p : Nat → Nat → Int32} {pa : Nat → Nat → Nat → Int32} {s : Nat → Nat → Int32} {sa : Nat → Nat → Nat → Int32} {sw : Bool} {rp : Value} {t : List jE} {z : Nat × Nat × Nat × (Nat → Int32)}  : K_w_join D a0 a1 a2 f g n2 p pa s sa sw rp t z = if a0 = 11 then (some (.inl (some (.long (a1 + a2))), (jX f g n2 p pa s sa sw rp t, z))) else (if a0 = 12 then (some (.inl (some (.long (a1 - a2))), (jX f g n2 p pa s sa sw rp t, z))) else (if a0 = 13 then (if (lg_cmp a1 0) = 0 then (K_w_join_24 D (some (.int a0)) a1 a2 f g n2 p pa s sa sw rp t z) else (if (if 0 < a1 then a1 else -a1) = 0 then none else (if 0 < (lg_cmp (if 0 < a2 then a2 else -a2) (1000000000000 / (if 0 < a1 then a1 else -a1))) then (some (.inl (some (.long (-9223372036854775808))), (jX f g n2 p pa s sa sw rp t, z))) else (K_w_join_24 D (some (.int a0)) a1 a2 f g n2 p pa s sa sw rp t z)))) else (if a0 = 14 then (if (lg_cmp a2 0) = 0 then (some (.inl (some (.long (-9223372036854775808))), (jX f g n2 p pa s sa sw rp t, z))) else (if a2 = 0 then none else (some (.inl (some (.long (a1 / a2))), (jX f g n2 p pa s sa sw rp t, z))))) else (jbO (K_w_holds D a0 a1 a2 f g n2 p pa s sa sw rp t z) (jk D 22 42 ([some (.int a0), none, none, none, none], [none, some a1, none, some a2, none]) []))))) := by
  refine (jev_blk 2 (pc' := if a0 = 11 then 2 else if a0 = 12 then 6 else if a0 = 13 then 10 else if a0 = 14 then 28 else 38) (L' := ([some (.int a0), none, none, none, none], [none, some a1, none, some a2, none])) (S' := []) (h' := (jX f g n2 p pa s sa sw rp t, z)) rfl).trans ?_
  refine jev_ite.trans (jite_congr (fun _ => ?_) (fun _ => ?_))
  · refine (jev_blk 3 (pc' := 5) (L' := ([some (.int a0), none, none, none, none], [none, some a1, none, some a2, none])) (S' := [.long (a1 + a2)]) (h' := (jX f g n2 p pa s sa sw rp t, z)) rfl).trans ?_
    exact jev_fin rfl
  · refine jev_ite.trans (jite_congr (fun _ => ?_) (fun _ => ?_))
    · refine (jev_blk 3 (pc' := 9) (L' := ([some (.int a0), none, none, none, none], [none, some a1, none, some a2, none])) (S' := [.long (a1 - a2)]) (h' := (jX f g n2 p pa s sa sw rp t, z)) rfl).trans ?_
      exact jev_fin rfl
    · refine jev_ite.trans (jite_congr (fun _ => ?_) (fun _ => ?_))
      · refine (jev_blk 4 (pc' := if (lg_cmp a1 0) = 0 then 24 else 14) (L' := ([some (.int a0), none, none, none, none], [none, some a1, none, some a2, none])) (S' := []) (h' := (jX f g n2 p pa s sa sw rp t, z)) rfl).trans (jev_ite.trans (jite_congr (fun _ => ?_) (fun _ => ?_)))
        · rfl
        · refine (jev_blk 1 (pc' := 15) (L' := ([some (.int a0), none, none, none, none], [none, some a1, none, some a2, none])) (S' := [.long a2]) (h' := (jX f g n2 p pa s sa sw rp t, z)) rfl).trans ?_
          refine (jev_prim (a := 6) (As := [.long a2]) (nx := 16) (rest := []) rfl (r := some (.long (if 0 < a2 then a2 else -a2))) (h' := (jX f g n2 p pa s sa sw rp t, z)) rfl).trans ?_
          refine (jev_blk 2 (pc' := 18) (L' := ([some (.int a0), none, none, none, none], [none, some a1, none, some a2, none])) (S' := [.long a1, .long 1000000000000, .long (if 0 < a2 then a2 else -a2)]) (h' := (jX f g n2 p pa s sa sw rp t, z)) rfl).trans ?_
          refine (jev_prim (a := 6) (As := [.long a1]) (nx := 19) (rest := [.long 1000000000000, .long (if 0 < a2 then a2 else -a2)]) rfl (r := some (.long (if 0 < a1 then a1 else -a1))) (h' := (jX f g n2 p pa s sa sw rp t, z)) rfl).trans ?_
          refine (jev_grd (q := (if 0 < a1 then a1 else -a1) = 0) (pc' := 20) (L' := ([some (.int a0), none, none, none, none], [none, some a1, none, some a2, none])) (S' := [.long (1000000000000 / (if 0 < a1 then a1 else -a1)), .long (if 0 < a2 then a2 else -a2)]) (h' := (jX f g n2 p pa s sa sw rp t, z)) rfl).trans (jite_congr (fun _ => rfl) (fun _ => ?_))
          refine (jev_blk 2 (pc' := if 0 < (lg_cmp (if 0 < a2 then a2 else -a2) (1000000000000 / (if 0 < a1 then a1 else -a1))) then 22 else 24) (L' := ([some (.int a0), none, none, none, none], [none, some a1, none, some a2, none])) (S' := []) (h' := (jX f g n2 p pa s sa sw rp t, z)) rfl).trans (jev_ite.trans (jite_congr (fun _ => ?_) (fun _ => ?_)))
          · refine (jev_blk 2 (pc' := 27) (L' := ([some (.int a0), none, none, none, none], [none, some a1, none, some a2, none])) (S' := [.long (-9223372036854775808)]) (h' := (jX f g n2 p pa s sa sw rp t, z)) rfl).trans ?_
            exact jev_fin rfl
          · rfl
      · refine jev_ite.trans (jite_congr (fun _ => ?_) (fun _ => ?_))
        · refine (jev_blk 4 (pc' := if (lg_cmp a2 0) = 0 then 32 else 34) (L' := ([some (.int a0), none, none, none, none], [none, some a1, none, some a2, none])) (S' := []) (h' := (jX f g n2 p pa s sa sw rp t, z)) rfl).trans (jev_ite.trans (jite_congr (fun _ => ?_) (fun _ => ?_)))
          · refine (jev_blk 2 (pc' := 37) (L' := ([some (.int a0), none, none, none, none], [none, some a1, none, some a2, none])) (S' := [.long (-9223372036854775808)]) (h' := (jX f g n2 p pa s sa sw rp t, z)) rfl).trans ?_
            exact jev_fin rfl
          · refine (jev_blk 2 (pc' := 36) (L' := ([some (.int a0), none, none, none, none], [none, some a1, none, some a2, none])) (S' := [.long a2, .long a1]) (h' := (jX f g n2 p pa s sa sw rp t, z)) rfl).trans ?_
            refine (jev_grd (q := a2 = 0) (pc' := 37) (L' := ([some (.int a0), none, none, none, none], [none, some a1, none, some a2, none])) (S' := [.long (a1 / a2)]) (h' := (jX f g n2 p pa s sa sw rp t, z)) rfl).trans (jite_congr (fun _ => rfl) (fun _ => ?_))
            exact jev_fin rfl
        · refine (jev_blk 3 (pc' := 41) (L' := ([some (.int a0), none, none, none, none], [none, some a1, none, some a2, none])) (S' := [.long a2, .long a1, .int a0]) (h' := (jX f g n2 p pa s sa sw rp t, z)) rfl).trans ?_
          exact jev_callb (nx := 42) (rest := []) rfl
set_option maxRecDepth 20000 in
theorem E_w_join_24 {D : Nat}  {d0 : Option Value} {y1 : Int64} {y3 : Int64} {f : Nat → Int32} {g : Nat → Nat → Int32} {n2 : Nat → Nat → Int64} {p : Nat → Nat → Int32} {pa : Nat → Nat → Nat → Int32} {s : Nat → Nat → Int32} {sa : Nat → Nat → Nat → Int32} {sw : Bool} {rp : Value} {t : List jE} {z : Nat × Nat × Nat × (Nat → Int32)}  : K_w_join_24 D d0 y1 y3 f g n2 p pa s sa sw rp t z = some (.inl (some (.long (y1 * y3))), (jX f g n2 p pa s sa sw rp t, z)) := by
  refine (jev_blk 3 (pc' := 27) (L' := ([d0, none, none, none, none], [none, some y1, none, some y3, none])) (S' := [.long (y1 * y3)]) (h' := (jX f g n2 p pa s sa sw rp t, z)) rfl).trans ?_
  exact jev_fin rfl
set_option maxRecDepth 20000 in
theorem E_w_join_42 {D : Nat}  {d0 : Option Value} {d1 : Option Value} {e1 : Option Int64} {d2 : Option Value} {d3 : Option Value} {e3 : Option Int64} {d4 : Option Value} {u0 : Int32} {f : Nat → Int32} {g : Nat → Nat → Int32} {n2 : Nat → Nat → Int64} {p : Nat → Nat → Int32} {pa : Nat → Nat → Nat → Int32} {s : Nat → Nat → Int32} {sa : Nat → Nat → Nat → Int32} {sw : Bool} {rp : Value} {t : List jE} {z : Nat × Nat × Nat × (Nat → Int32)}  : jev D 22 42 ([d0, d1, d2, d3, d4], [none, e1, none, e3, none]) [.int u0] (jX f g n2 p pa s sa sw rp t, z) = if u0 = 0 then (some (.inl (some (.long 0)), (jX f g n2 p pa s sa sw rp t, z))) else (some (.inl (some (.long 1)), (jX f g n2 p pa s sa sw rp t, z))) := by
  refine (jev_blk 1 (pc' := if u0 = 0 then 45 else 43) (L' := ([d0, d1, d2, d3, d4], [none, e1, none, e3, none])) (S' := []) (h' := (jX f g n2 p pa s sa sw rp t, z)) rfl).trans (jev_ite.trans (jite_congr (fun _ => ?_) (fun _ => ?_)))
  · refine (jev_blk 1 (pc' := 46) (L' := ([d0, d1, d2, d3, d4], [none, e1, none, e3, none])) (S' := [.long 0]) (h' := (jX f g n2 p pa s sa sw rp t, z)) rfl).trans ?_
    exact jev_fin rfl
  · refine (jev_blk 2 (pc' := 46) (L' := ([d0, d1, d2, d3, d4], [none, e1, none, e3, none])) (S' := [.long 1]) (h' := (jX f g n2 p pa s sa sw rp t, z)) rfl).trans ?_
    exact jev_fin rfl
set_option maxRecDepth 20000 in
theorem E_w_holds {D : Nat}  {a0 : Int32} {a1 : Int64} {a2 : Int64} {f : Nat → Int32} {g : Nat → Nat → Int32} {n2 : Nat → Nat → Int64} {p : Nat → Nat → Int32} {pa : Nat → Nat → Nat → Int32} {s : Nat → Nat → Int32} {sa : Nat → Nat → Nat → Int32} {sw : Bool} {rp : Value} {t : List jE} {z : Nat × Nat × Nat × (Nat → Int32)}  : K_w_holds D a0 a1 a2 f g n2 p pa s sa sw rp t z = if a0 = 3 then (if (lg_cmp a1 0) = 0 then (if (lg_cmp a2 0) = 0 then (some (.inl (some (.int 0)), (jX f g n2 p pa s sa sw rp t, z))) else (some (.inl (some (.int 1)), (jX f g n2 p pa s sa sw rp t, z)))) else (some (.inl (some (.int 1)), (jX f g n2 p pa s sa sw rp t, z)))) else (if a0 = 4 then (if (lg_cmp a1 0) = 0 then (some (.inl (some (.int 0)), (jX f g n2 p pa s sa sw rp t, z))) else (if (lg_cmp a2 0) = 0 then (some (.inl (some (.int 0)), (jX f g n2 p pa s sa sw rp t, z))) else (some (.inl (some (.int 1)), (jX f g n2 p pa s sa sw rp t, z))))) else (if a0 = 5 then (if (lg_cmp a1 a2) < 0 then (some (.inl (some (.int 1)), (jX f g n2 p pa s sa sw rp t, z))) else (some (.inl (some (.int 0)), (jX f g n2 p pa s sa sw rp t, z)))) else (if a0 = 6 then (if 0 < (lg_cmp a1 a2) then (some (.inl (some (.int 0)), (jX f g n2 p pa s sa sw rp t, z))) else (some (.inl (some (.int 1)), (jX f g n2 p pa s sa sw rp t, z)))) else (if a0 = 7 then (if (lg_cmp a1 a2) = 0 then (some (.inl (some (.int 1)), (jX f g n2 p pa s sa sw rp t, z))) else (some (.inl (some (.int 0)), (jX f g n2 p pa s sa sw rp t, z)))) else (if a0 = 8 then (if (lg_cmp a1 a2) = 0 then (some (.inl (some (.int 0)), (jX f g n2 p pa s sa sw rp t, z))) else (some (.inl (some (.int 1)), (jX f g n2 p pa s sa sw rp t, z)))) else (if a0 = 9 then (if 0 < (lg_cmp a1 a2) then (some (.inl (some (.int 1)), (jX f g n2 p pa s sa sw rp t, z))) else (some (.inl (some (.int 0)), (jX f g n2 p pa s sa sw rp t, z)))) else (if (lg_cmp a1 a2) < 0 then (some (.inl (some (.int 0)), (jX f g n2 p pa s sa sw rp t, z))) else (some (.inl (some (.int 1)), (jX f g n2 p pa s sa sw rp t, z)))))))))) := by
  refine (jev_blk 2 (pc' := if a0 = 3 then 2 else if a0 = 4 then 14 else if a0 = 5 then 26 else if a0 = 6 then 34 else if a0 = 7 then 42 else if a0 = 8 then 50 else if a0 = 9 then 58 else 66) (L' := ([some (.int a0), none, none, none, none], [none, some a1, none, some a2, none])) (S' := []) (h' := (jX f g n2 p pa s sa sw rp t, z)) rfl).trans ?_
  refine jev_ite.trans (jite_congr (fun _ => ?_) (fun _ => ?_))
  · refine (jev_blk 4 (pc' := if (lg_cmp a1 0) = 0 then 6 else 10) (L' := ([some (.int a0), none, none, none, none], [none, some a1, none, some a2, none])) (S' := []) (h' := (jX f g n2 p pa s sa sw rp t, z)) rfl).trans (jev_ite.trans (jite_congr (fun _ => ?_) (fun _ => ?_)))
    · refine (jev_blk 4 (pc' := if (lg_cmp a2 0) = 0 then 12 else 10) (L' := ([some (.int a0), none, none, none, none], [none, some a1, none, some a2, none])) (S' := []) (h' := (jX f g n2 p pa s sa sw rp t, z)) rfl).trans (jev_ite.trans (jite_congr (fun _ => ?_) (fun _ => ?_)))
      · refine (jev_blk 1 (pc' := 13) (L' := ([some (.int a0), none, none, none, none], [none, some a1, none, some a2, none])) (S' := [.int 0]) (h' := (jX f g n2 p pa s sa sw rp t, z)) rfl).trans ?_
        exact jev_fin rfl
      · refine (jev_blk 2 (pc' := 13) (L' := ([some (.int a0), none, none, none, none], [none, some a1, none, some a2, none])) (S' := [.int 1]) (h' := (jX f g n2 p pa s sa sw rp t, z)) rfl).trans ?_
        exact jev_fin rfl
    · refine (jev_blk 2 (pc' := 13) (L' := ([some (.int a0), none, none, none, none], [none, some a1, none, some a2, none])) (S' := [.int 1]) (h' := (jX f g n2 p pa s sa sw rp t, z)) rfl).trans ?_
      exact jev_fin rfl
  · refine jev_ite.trans (jite_congr (fun _ => ?_) (fun _ => ?_))
    · refine (jev_blk 4 (pc' := if (lg_cmp a1 0) = 0 then 24 else 18) (L' := ([some (.int a0), none, none, none, none], [none, some a1, none, some a2, none])) (S' := []) (h' := (jX f g n2 p pa s sa sw rp t, z)) rfl).trans (jev_ite.trans (jite_congr (fun _ => ?_) (fun _ => ?_)))
      · refine (jev_blk 1 (pc' := 25) (L' := ([some (.int a0), none, none, none, none], [none, some a1, none, some a2, none])) (S' := [.int 0]) (h' := (jX f g n2 p pa s sa sw rp t, z)) rfl).trans ?_
        exact jev_fin rfl
      · refine (jev_blk 4 (pc' := if (lg_cmp a2 0) = 0 then 24 else 22) (L' := ([some (.int a0), none, none, none, none], [none, some a1, none, some a2, none])) (S' := []) (h' := (jX f g n2 p pa s sa sw rp t, z)) rfl).trans (jev_ite.trans (jite_congr (fun _ => ?_) (fun _ => ?_)))
        · refine (jev_blk 1 (pc' := 25) (L' := ([some (.int a0), none, none, none, none], [none, some a1, none, some a2, none])) (S' := [.int 0]) (h' := (jX f g n2 p pa s sa sw rp t, z)) rfl).trans ?_
          exact jev_fin rfl
        · refine (jev_blk 2 (pc' := 25) (L' := ([some (.int a0), none, none, none, none], [none, some a1, none, some a2, none])) (S' := [.int 1]) (h' := (jX f g n2 p pa s sa sw rp t, z)) rfl).trans ?_
          exact jev_fin rfl
    · refine jev_ite.trans (jite_congr (fun _ => ?_) (fun _ => ?_))
      · refine (jev_blk 4 (pc' := if (lg_cmp a1 a2) < 0 then 30 else 32) (L' := ([some (.int a0), none, none, none, none], [none, some a1, none, some a2, none])) (S' := []) (h' := (jX f g n2 p pa s sa sw rp t, z)) rfl).trans (jev_ite.trans (jite_congr (fun _ => ?_) (fun _ => ?_)))
        · refine (jev_blk 2 (pc' := 33) (L' := ([some (.int a0), none, none, none, none], [none, some a1, none, some a2, none])) (S' := [.int 1]) (h' := (jX f g n2 p pa s sa sw rp t, z)) rfl).trans ?_
          exact jev_fin rfl
        · refine (jev_blk 1 (pc' := 33) (L' := ([some (.int a0), none, none, none, none], [none, some a1, none, some a2, none])) (S' := [.int 0]) (h' := (jX f g n2 p pa s sa sw rp t, z)) rfl).trans ?_
          exact jev_fin rfl
      · refine jev_ite.trans (jite_congr (fun _ => ?_) (fun _ => ?_))
        · refine (jev_blk 4 (pc' := if 0 < (lg_cmp a1 a2) then 40 else 38) (L' := ([some (.int a0), none, none, none, none], [none, some a1, none, some a2, none])) (S' := []) (h' := (jX f g n2 p pa s sa sw rp t, z)) rfl).trans (jev_ite.trans (jite_congr (fun _ => ?_) (fun _ => ?_)))
          · refine (jev_blk 1 (pc' := 41) (L' := ([some (.int a0), none, none, none, none], [none, some a1, none, some a2, none])) (S' := [.int 0]) (h' := (jX f g n2 p pa s sa sw rp t, z)) rfl).trans ?_
            exact jev_fin rfl
          · refine (jev_blk 2 (pc' := 41) (L' := ([some (.int a0), none, none, none, none], [none, some a1, none, some a2, none])) (S' := [.int 1]) (h' := (jX f g n2 p pa s sa sw rp t, z)) rfl).trans ?_
            exact jev_fin rfl
        · refine jev_ite.trans (jite_congr (fun _ => ?_) (fun _ => ?_))
          · refine (jev_blk 4 (pc' := if (lg_cmp a1 a2) = 0 then 46 else 48) (L' := ([some (.int a0), none, none, none, none], [none, some a1, none, some a2, none])) (S' := []) (h' := (jX f g n2 p pa s sa sw rp t, z)) rfl).trans (jev_ite.trans (jite_congr (fun _ => ?_) (fun _ => ?_)))
            · refine (jev_blk 2 (pc' := 49) (L' := ([some (.int a0), none, none, none, none], [none, some a1, none, some a2, none])) (S' := [.int 1]) (h' := (jX f g n2 p pa s sa sw rp t, z)) rfl).trans ?_
              exact jev_fin rfl
            · refine (jev_blk 1 (pc' := 49) (L' := ([some (.int a0), none, none, none, none], [none, some a1, none, some a2, none])) (S' := [.int 0]) (h' := (jX f g n2 p pa s sa sw rp t, z)) rfl).trans ?_
              exact jev_fin rfl
          · refine jev_ite.trans (jite_congr (fun _ => ?_) (fun _ => ?_))
            · refine (jev_blk 4 (pc' := if (lg_cmp a1 a2) = 0 then 56 else 54) (L' := ([some (.int a0), none, none, none, none], [none, some a1, none, some a2, none])) (S' := []) (h' := (jX f g n2 p pa s sa sw rp t, z)) rfl).trans (jev_ite.trans (jite_congr (fun _ => ?_) (fun _ => ?_)))
              · refine (jev_blk 1 (pc' := 57) (L' := ([some (.int a0), none, none, none, none], [none, some a1, none, some a2, none])) (S' := [.int 0]) (h' := (jX f g n2 p pa s sa sw rp t, z)) rfl).trans ?_
                exact jev_fin rfl
              · refine (jev_blk 2 (pc' := 57) (L' := ([some (.int a0), none, none, none, none], [none, some a1, none, some a2, none])) (S' := [.int 1]) (h' := (jX f g n2 p pa s sa sw rp t, z)) rfl).trans ?_
                exact jev_fin rfl
            · refine jev_ite.trans (jite_congr (fun _ => ?_) (fun _ => ?_))
              · refine (jev_blk 4 (pc' := if 0 < (lg_cmp a1 a2) then 62 else 64) (L' := ([some (.int a0), none, none, none, none], [none, some a1, none, some a2, none])) (S' := []) (h' := (jX f g n2 p pa s sa sw rp t, z)) rfl).trans (jev_ite.trans (jite_congr (fun _ => ?_) (fun _ => ?_)))
                · refine (jev_blk 2 (pc' := 65) (L' := ([some (.int a0), none, none, none, none], [none, some a1, none, some a2, none])) (S' := [.int 1]) (h' := (jX f g n2 p pa s sa sw rp t, z)) rfl).trans ?_
                  exact jev_fin rfl
                · refine (jev_blk 1 (pc' := 65) (L' := ([some (.int a0), none, none, none, none], [none, some a1, none, some a2, none])) (S' := [.int 0]) (h' := (jX f g n2 p pa s sa sw rp t, z)) rfl).trans ?_
                  exact jev_fin rfl
              · refine (jev_blk 4 (pc' := if (lg_cmp a1 a2) < 0 then 72 else 70) (L' := ([some (.int a0), none, none, none, none], [none, some a1, none, some a2, none])) (S' := []) (h' := (jX f g n2 p pa s sa sw rp t, z)) rfl).trans (jev_ite.trans (jite_congr (fun _ => ?_) (fun _ => ?_)))
                · refine (jev_blk 1 (pc' := 73) (L' := ([some (.int a0), none, none, none, none], [none, some a1, none, some a2, none])) (S' := [.int 0]) (h' := (jX f g n2 p pa s sa sw rp t, z)) rfl).trans ?_
                  exact jev_fin rfl
                · refine (jev_blk 2 (pc' := 73) (L' := ([some (.int a0), none, none, none, none], [none, some a1, none, some a2, none])) (S' := [.int 1]) (h' := (jX f g n2 p pa s sa sw rp t, z)) rfl).trans ?_
                  exact jev_fin rfl
set_option maxRecDepth 20000 in
theorem E_o_answer {D : Nat}  {a0 : Int32} {f : Nat → Int32} {g : Nat → Nat → Int32} {n2 : Nat → Nat → Int64} {p : Nat → Nat → Int32} {pa : Nat → Nat → Nat → Int32} {s : Nat → Nat → Int32} {sa : Nat → Nat → Nat → Int32} {sw : Bool} {rp : Value} {t : List jE} {z : Nat × Nat × Nat × (Nat → Int32)}  : K_o_answer D a0 f g n2 p pa s sa sw rp t z = if a0 = 0 then (some (.inl (some (.int (f 26))), (jX f g n2 p pa s sa sw rp t, z))) else (if a0 = 1 then (some (.inl (some (.int (f 27))), (jX f g n2 p pa s sa sw rp t, z))) else (if a0 = 2 then (some (.inl (some (.int (f 28))), (jX f g n2 p pa s sa sw rp t, z))) else (some (.inl (some (.int (f 29))), (jX f g n2 p pa s sa sw rp t, z))))) := by
  refine (jev_blk 2 (pc' := if a0 = 0 then 2 else if a0 = 1 then 5 else if a0 = 2 then 8 else 11) (L' := ([some (.ref 76), some (.int a0)], [])) (S' := []) (h' := (jX f g n2 p pa s sa sw rp t, z)) rfl).trans ?_
  refine jev_ite.trans (jite_congr (fun _ => ?_) (fun _ => ?_))
  · refine (jev_blk 2 (pc' := 4) (L' := ([some (.ref 76), some (.int a0)], [])) (S' := [.int (f 26)]) (h' := (jX f g n2 p pa s sa sw rp t, z)) rfl).trans ?_
    exact jev_fin rfl
  · refine jev_ite.trans (jite_congr (fun _ => ?_) (fun _ => ?_))
    · refine (jev_blk 2 (pc' := 7) (L' := ([some (.ref 76), some (.int a0)], [])) (S' := [.int (f 27)]) (h' := (jX f g n2 p pa s sa sw rp t, z)) rfl).trans ?_
      exact jev_fin rfl
    · refine jev_ite.trans (jite_congr (fun _ => ?_) (fun _ => ?_))
      · refine (jev_blk 2 (pc' := 10) (L' := ([some (.ref 76), some (.int a0)], [])) (S' := [.int (f 28)]) (h' := (jX f g n2 p pa s sa sw rp t, z)) rfl).trans ?_
        exact jev_fin rfl
      · refine (jev_blk 2 (pc' := 13) (L' := ([some (.ref 76), some (.int a0)], [])) (S' := [.int (f 29)]) (h' := (jX f g n2 p pa s sa sw rp t, z)) rfl).trans ?_
        exact jev_fin rfl
set_option maxRecDepth 20000 in
theorem E_o_settle {D : Nat}   {f : Nat → Int32} {g : Nat → Nat → Int32} {n2 : Nat → Nat → Int64} {p : Nat → Nat → Int32} {pa : Nat → Nat → Nat → Int32} {s : Nat → Nat → Int32} {sa : Nat → Nat → Nat → Int32} {sw : Bool} {rp : Value} {t : List jE} {z : Nat × Nat × Nat × (Nat → Int32)}  : K_o_settle D f g n2 p pa s sa sw rp t z = K_o_settle_2 D 0 none none f g n2 p pa s sa sw rp t z := by
  exact jev_blk 2 rfl
set_option maxRecDepth 20000 in
theorem L_o_settle_2 {D : Nat}  {x1 : Int32} {d2 : Option Value} {d3 : Option Value} {f : Nat → Int32} {g : Nat → Nat → Int32} {n2 : Nat → Nat → Int64} {p : Nat → Nat → Int32} {pa : Nat → Nat → Nat → Int32} {s : Nat → Nat → Int32} {sa : Nat → Nat → Nat → Int32} {sw : Bool} {rp : Value} {t : List jE} {z : Nat × Nat × Nat × (Nat → Int32)}  : K_o_settle_2 D x1 d2 d3 f g n2 p pa s sa sw rp t z = if x1 < 2 then (K_o_settle_7 D x1 0 d3 f g n2 p pa s sa sw rp t z) else (if ((((g 11 0) - (g 11 1)) - (g 11 2)) + (g 11 3)) < 0 then (K_o_settle_81 D ((((g 11 0) - (g 11 1)) - (g 11 2)) + (g 11 3)) d2 d3 (-1) f g n2 p pa s sa sw rp t z) else (K_o_settle_81 D ((((g 11 0) - (g 11 1)) - (g 11 2)) + (g 11 3)) d2 d3 1 f g n2 p pa s sa sw rp t z)) := by
  refine (jev_blk 3 (pc' := if x1 < 2 then 5 else 56) (L' := ([some (.ref 76), some (.int x1), d2, d3], [])) (S' := []) (h' := (jX f g n2 p pa s sa sw rp t, z)) rfl).trans (jev_ite.trans (jite_congr (fun _ => ?_) (fun _ => ?_)))
  · exact jev_blk 2 rfl
  · refine (jev_blk 22 (pc' := if ((((g 11 0) - (g 11 1)) - (g 11 2)) + (g 11 3)) < 0 then 78 else 80) (L' := ([some (.ref 76), some (.int ((((g 11 0) - (g 11 1)) - (g 11 2)) + (g 11 3))), d2, d3], [])) (S' := []) (h' := (jX f g n2 p pa s sa sw rp t, z)) rfl).trans (jev_ite.trans (jite_congr (fun _ => ?_) (fun _ => ?_)))
    · exact jev_blk 2 rfl
    · exact jev_blk 1 rfl
set_option maxRecDepth 20000 in
theorem L_o_settle_7 {D : Nat}  {x1 : Int32} {x2 : Int32} {d3 : Option Value} {f : Nat → Int32} {g : Nat → Nat → Int32} {n2 : Nat → Nat → Int64} {p : Nat → Nat → Int32} {pa : Nat → Nat → Nat → Int32} {s : Nat → Nat → Int32} {sa : Nat → Nat → Nat → Int32} {sw : Bool} {rp : Value} {t : List jE} {z : Nat × Nat × Nat × (Nat → Int32)}  : K_o_settle_7 D x1 x2 d3 f g n2 p pa s sa sw rp t z = if x2 < 2 then (if jout ((x1 * 2) + x2) 4 then none else (if jout (((1 - x1) * 2) + x2) 4 then none else (if (g 11 (((1 - x1) * 2) + x2).toNatClampNeg) < (g 11 ((x1 * 2) + x2).toNatClampNeg) then (K_o_settle_52 D x1 x2 (some (.int (g 11 ((x1 * 2) + x2).toNatClampNeg))) f g n2 p pa s sa sw rp t z) else (if jout (((x1 * 2) + 1) - x2) 4 then none else (if (g 11 ((x1 * 2) + x2).toNatClampNeg) < (g 11 (((x1 * 2) + 1) - x2).toNatClampNeg) then (K_o_settle_52 D x1 x2 (some (.int (g 11 ((x1 * 2) + x2).toNatClampNeg))) f g n2 p pa s sa sw rp t z) else (jbO (K_o_put D (1 - x1) 1 (g 11 ((x1 * 2) + x2).toNatClampNeg) 1 f g n2 p pa s sa sw rp t z) (jk D 26 51 ([some (.ref 76), some (.int x1), some (.int x2), some (.int (g 11 ((x1 * 2) + x2).toNatClampNeg))], []) []))))))) else (K_o_settle_2 D (x1 + 1) (some (.int x2)) d3 f g n2 p pa s sa sw rp t z) := by
  refine (jev_blk 3 (pc' := if x2 < 2 then 10 else 54) (L' := ([some (.ref 76), some (.int x1), some (.int x2), d3], [])) (S' := []) (h' := (jX f g n2 p pa s sa sw rp t, z)) rfl).trans (jev_ite.trans (jite_congr (fun _ => ?_) (fun _ => ?_)))
  · refine (jev_blk 7 (pc' := 17) (L' := ([some (.ref 76), some (.int x1), some (.int x2), d3], [])) (S' := [.int ((x1 * 2) + x2), .ref 77]) (h' := (jX f g n2 p pa s sa sw rp t, z)) rfl).trans ?_
    refine (jev_grd (q := jout ((x1 * 2) + x2) 4) (pc' := 18) (L' := ([some (.ref 76), some (.int x1), some (.int x2), d3], [])) (S' := [.int (g 11 ((x1 * 2) + x2).toNatClampNeg)]) (h' := (jX f g n2 p pa s sa sw rp t, z)) rfl).trans (jite_congr (fun _ => rfl) (fun _ => ?_))
    refine (jev_blk 11 (pc' := 29) (L' := ([some (.ref 76), some (.int x1), some (.int x2), some (.int (g 11 ((x1 * 2) + x2).toNatClampNeg))], [])) (S' := [.int (((1 - x1) * 2) + x2), .ref 77, .int (g 11 ((x1 * 2) + x2).toNatClampNeg)]) (h' := (jX f g n2 p pa s sa sw rp t, z)) rfl).trans ?_
    refine (jev_grd (q := jout (((1 - x1) * 2) + x2) 4) (pc' := 30) (L' := ([some (.ref 76), some (.int x1), some (.int x2), some (.int (g 11 ((x1 * 2) + x2).toNatClampNeg))], [])) (S' := [.int (g 11 (((1 - x1) * 2) + x2).toNatClampNeg), .int (g 11 ((x1 * 2) + x2).toNatClampNeg)]) (h' := (jX f g n2 p pa s sa sw rp t, z)) rfl).trans (jite_congr (fun _ => rfl) (fun _ => ?_))
    refine (jev_blk 1 (pc' := if (g 11 (((1 - x1) * 2) + x2).toNatClampNeg) < (g 11 ((x1 * 2) + x2).toNatClampNeg) then 52 else 31) (L' := ([some (.ref 76), some (.int x1), some (.int x2), some (.int (g 11 ((x1 * 2) + x2).toNatClampNeg))], [])) (S' := []) (h' := (jX f g n2 p pa s sa sw rp t, z)) rfl).trans (jev_ite.trans (jite_congr (fun _ => ?_) (fun _ => ?_)))
    · rfl
    · refine (jev_blk 10 (pc' := 41) (L' := ([some (.ref 76), some (.int x1), some (.int x2), some (.int (g 11 ((x1 * 2) + x2).toNatClampNeg))], [])) (S' := [.int (((x1 * 2) + 1) - x2), .ref 77, .int (g 11 ((x1 * 2) + x2).toNatClampNeg)]) (h' := (jX f g n2 p pa s sa sw rp t, z)) rfl).trans ?_
      refine (jev_grd (q := jout (((x1 * 2) + 1) - x2) 4) (pc' := 42) (L' := ([some (.ref 76), some (.int x1), some (.int x2), some (.int (g 11 ((x1 * 2) + x2).toNatClampNeg))], [])) (S' := [.int (g 11 (((x1 * 2) + 1) - x2).toNatClampNeg), .int (g 11 ((x1 * 2) + x2).toNatClampNeg)]) (h' := (jX f g n2 p pa s sa sw rp t, z)) rfl).trans (jite_congr (fun _ => rfl) (fun _ => ?_))
      refine (jev_blk 1 (pc' := if (g 11 ((x1 * 2) + x2).toNatClampNeg) < (g 11 (((x1 * 2) + 1) - x2).toNatClampNeg) then 52 else 43) (L' := ([some (.ref 76), some (.int x1), some (.int x2), some (.int (g 11 ((x1 * 2) + x2).toNatClampNeg))], [])) (S' := []) (h' := (jX f g n2 p pa s sa sw rp t, z)) rfl).trans (jev_ite.trans (jite_congr (fun _ => ?_) (fun _ => ?_)))
      · rfl
      · refine (jev_blk 7 (pc' := 50) (L' := ([some (.ref 76), some (.int x1), some (.int x2), some (.int (g 11 ((x1 * 2) + x2).toNatClampNeg))], [])) (S' := [.int 1, .int (g 11 ((x1 * 2) + x2).toNatClampNeg), .int 1, .int (1 - x1), .ref 76]) (h' := (jX f g n2 p pa s sa sw rp t, z)) rfl).trans ?_
        exact jev_callb (nx := 51) (rest := []) rfl
  · exact jev_blk 2 rfl
set_option maxRecDepth 20000 in
theorem E_o_settle_81 {D : Nat}  {x1 : Int32} {d2 : Option Value} {d3 : Option Value} {u0 : Int32} {f : Nat → Int32} {g : Nat → Nat → Int32} {n2 : Nat → Nat → Int64} {p : Nat → Nat → Int32} {pa : Nat → Nat → Nat → Int32} {s : Nat → Nat → Int32} {sa : Nat → Nat → Nat → Int32} {sw : Bool} {rp : Value} {t : List jE} {z : Nat × Nat × Nat × (Nat → Int32)}  : K_o_settle_81 D x1 d2 d3 u0 f g n2 p pa s sa sw rp t z = jbO (K_o_put D (u0 * ((g 11 3) - (g 11 2))) (u0 * x1) (u0 * (((g 11 0) * (g 11 3)) - ((g 11 1) * (g 11 2)))) (u0 * x1) f g n2 p pa s sa sw rp t z) (jk D 26 122 ([some (.ref 76), some (.int x1), some (.int u0), d3], []) []) := by
  refine (jev_blk 40 (pc' := 121) (L' := ([some (.ref 76), some (.int x1), some (.int u0), d3], [])) (S' := [.int (u0 * x1), .int (u0 * (((g 11 0) * (g 11 3)) - ((g 11 1) * (g 11 2)))), .int (u0 * x1), .int (u0 * ((g 11 3) - (g 11 2))), .ref 76]) (h' := (jX f g n2 p pa s sa sw rp t, z)) rfl).trans ?_
  exact jev_callb (nx := 122) (rest := []) rfl
set_option maxRecDepth 20000 in
theorem E_o_settle_52 {D : Nat}  {x1 : Int32} {x2 : Int32} {d3 : Option Value} {f : Nat → Int32} {g : Nat → Nat → Int32} {n2 : Nat → Nat → Int64} {p : Nat → Nat → Int32} {pa : Nat → Nat → Nat → Int32} {s : Nat → Nat → Int32} {sa : Nat → Nat → Nat → Int32} {sw : Bool} {rp : Value} {t : List jE} {z : Nat × Nat × Nat × (Nat → Int32)}  : K_o_settle_52 D x1 x2 d3 f g n2 p pa s sa sw rp t z = K_o_settle_7 D x1 (x2 + 1) d3 f g n2 p pa s sa sw rp t z := by
  exact jev_blk 2 rfl
set_option maxRecDepth 20000 in
theorem E_o_settle_51 {D : Nat}  {d1 : Option Value} {d2 : Option Value} {d3 : Option Value} {f : Nat → Int32} {g : Nat → Nat → Int32} {n2 : Nat → Nat → Int64} {p : Nat → Nat → Int32} {pa : Nat → Nat → Nat → Int32} {s : Nat → Nat → Int32} {sa : Nat → Nat → Nat → Int32} {sw : Bool} {rp : Value} {t : List jE} {z : Nat × Nat × Nat × (Nat → Int32)}  : jev D 26 51 ([some (.ref 76), d1, d2, d3], []) [] (jX f g n2 p pa s sa sw rp t, z) = some (.inl (none), (jX f g n2 p pa s sa sw rp t, z)) := by
  exact jev_fin rfl
set_option maxRecDepth 20000 in
theorem E_o_settle_122 {D : Nat}  {d1 : Option Value} {d2 : Option Value} {d3 : Option Value} {f : Nat → Int32} {g : Nat → Nat → Int32} {n2 : Nat → Nat → Int64} {p : Nat → Nat → Int32} {pa : Nat → Nat → Nat → Int32} {s : Nat → Nat → Int32} {sa : Nat → Nat → Nat → Int32} {sw : Bool} {rp : Value} {t : List jE} {z : Nat × Nat × Nat × (Nat → Int32)}  : jev D 26 122 ([some (.ref 76), d1, d2, d3], []) [] (jX f g n2 p pa s sa sw rp t, z) = some (.inl (none), (jX f g n2 p pa s sa sw rp t, z)) := by
  exact jev_fin rfl
set_option maxRecDepth 20000 in
theorem E_o_put {D : Nat}  {a0 : Int32} {a1 : Int32} {a2 : Int32} {a3 : Int32} {f : Nat → Int32} {g : Nat → Nat → Int32} {n2 : Nat → Nat → Int64} {p : Nat → Nat → Int32} {pa : Nat → Nat → Nat → Int32} {s : Nat → Nat → Int32} {sa : Nat → Nat → Nat → Int32} {sw : Bool} {rp : Value} {t : List jE} {z : Nat × Nat × Nat × (Nat → Int32)}  : K_o_put D a0 a1 a2 a3 f g n2 p pa s sa sw rp t z = jbO (K_o_shared D a0 a1 f g n2 p pa s sa sw rp t z) (jk D 27 3 ([some (.ref 76), some (.int a0), some (.int a1), some (.int a2), some (.int a3), none], []) []) := by
  refine (jev_blk 2 (pc' := 2) (L' := ([some (.ref 76), some (.int a0), some (.int a1), some (.int a2), some (.int a3), none], [])) (S' := [.int a1, .int a0]) (h' := (jX f g n2 p pa s sa sw rp t, z)) rfl).trans ?_
  exact jev_callb (nx := 3) (rest := []) rfl
set_option maxRecDepth 20000 in
theorem E_o_put_3 {D : Nat}  {x1 : Int32} {x2 : Int32} {x3 : Int32} {x4 : Int32} {d5 : Option Value} {u0 : Int32} {f : Nat → Int32} {g : Nat → Nat → Int32} {n2 : Nat → Nat → Int64} {p : Nat → Nat → Int32} {pa : Nat → Nat → Nat → Int32} {s : Nat → Nat → Int32} {sa : Nat → Nat → Nat → Int32} {sw : Bool} {rp : Value} {t : List jE} {z : Nat × Nat × Nat × (Nat → Int32)}  : jev D 27 3 ([some (.ref 76), some (.int x1), some (.int x2), some (.int x3), some (.int x4), d5], []) [.int u0] (jX f g n2 p pa s sa sw rp t, z) = if u0 = 0 then none else (if u0 = 0 then none else (jbO (K_o_shared D x3 x4 (jup (jup f 26 ((x1 / u0))) 27 ((x2 / u0))) g n2 p pa s sa sw rp t z) (jk D 27 17 ([some (.ref 76), some (.int x1), some (.int x2), some (.int x3), some (.int x4), some (.int u0)], []) []))) := by
  refine (jev_blk 4 (pc' := 7) (L' := ([some (.ref 76), some (.int x1), some (.int x2), some (.int x3), some (.int x4), some (.int u0)], [])) (S' := [.int u0, .int x1, .ref 76]) (h' := (jX f g n2 p pa s sa sw rp t, z)) rfl).trans ?_
  refine (jev_grd (q := u0 = 0) (pc' := 8) (L' := ([some (.ref 76), some (.int x1), some (.int x2), some (.int x3), some (.int x4), some (.int u0)], [])) (S' := [.int (x1 / u0), .ref 76]) (h' := (jX f g n2 p pa s sa sw rp t, z)) rfl).trans (jite_congr (fun _ => rfl) (fun _ => ?_))
  refine (jev_blk 4 (pc' := 12) (L' := ([some (.ref 76), some (.int x1), some (.int x2), some (.int x3), some (.int x4), some (.int u0)], [])) (S' := [.int u0, .int x2, .ref 76]) (h' := (jX (jup f 26 ((x1 / u0))) g n2 p pa s sa sw rp t, z)) rfl).trans ?_
  refine (jev_grd (q := u0 = 0) (pc' := 13) (L' := ([some (.ref 76), some (.int x1), some (.int x2), some (.int x3), some (.int x4), some (.int u0)], [])) (S' := [.int (x2 / u0), .ref 76]) (h' := (jX (jup f 26 ((x1 / u0))) g n2 p pa s sa sw rp t, z)) rfl).trans (jite_congr (fun _ => rfl) (fun _ => ?_))
  refine (jev_blk 3 (pc' := 16) (L' := ([some (.ref 76), some (.int x1), some (.int x2), some (.int x3), some (.int x4), some (.int u0)], [])) (S' := [.int x4, .int x3]) (h' := (jX (jup (jup f 26 ((x1 / u0))) 27 ((x2 / u0))) g n2 p pa s sa sw rp t, z)) rfl).trans ?_
  exact jev_callb (nx := 17) (rest := []) rfl
set_option maxRecDepth 20000 in
theorem E_o_put_17 {D : Nat}  {d1 : Option Value} {d2 : Option Value} {x3 : Int32} {x4 : Int32} {d5 : Option Value} {u0 : Int32} {f : Nat → Int32} {g : Nat → Nat → Int32} {n2 : Nat → Nat → Int64} {p : Nat → Nat → Int32} {pa : Nat → Nat → Nat → Int32} {s : Nat → Nat → Int32} {sa : Nat → Nat → Nat → Int32} {sw : Bool} {rp : Value} {t : List jE} {z : Nat × Nat × Nat × (Nat → Int32)}  : jev D 27 17 ([some (.ref 76), d1, d2, some (.int x3), some (.int x4), d5], []) [.int u0] (jX f g n2 p pa s sa sw rp t, z) = if u0 = 0 then none else (if u0 = 0 then none else (some (.inl (none), (jX (jup (jup f 28 ((x3 / u0))) 29 ((x4 / u0))) g n2 p pa s sa sw rp t, z)))) := by
  refine (jev_blk 4 (pc' := 21) (L' := ([some (.ref 76), d1, d2, some (.int x3), some (.int x4), some (.int u0)], [])) (S' := [.int u0, .int x3, .ref 76]) (h' := (jX f g n2 p pa s sa sw rp t, z)) rfl).trans ?_
  refine (jev_grd (q := u0 = 0) (pc' := 22) (L' := ([some (.ref 76), d1, d2, some (.int x3), some (.int x4), some (.int u0)], [])) (S' := [.int (x3 / u0), .ref 76]) (h' := (jX f g n2 p pa s sa sw rp t, z)) rfl).trans (jite_congr (fun _ => rfl) (fun _ => ?_))
  refine (jev_blk 4 (pc' := 26) (L' := ([some (.ref 76), d1, d2, some (.int x3), some (.int x4), some (.int u0)], [])) (S' := [.int u0, .int x4, .ref 76]) (h' := (jX (jup f 28 ((x3 / u0))) g n2 p pa s sa sw rp t, z)) rfl).trans ?_
  refine (jev_grd (q := u0 = 0) (pc' := 27) (L' := ([some (.ref 76), d1, d2, some (.int x3), some (.int x4), some (.int u0)], [])) (S' := [.int (x4 / u0), .ref 76]) (h' := (jX (jup f 28 ((x3 / u0))) g n2 p pa s sa sw rp t, z)) rfl).trans (jite_congr (fun _ => rfl) (fun _ => ?_))
  refine (jev_blk 1 (pc' := 28) (L' := ([some (.ref 76), d1, d2, some (.int x3), some (.int x4), some (.int u0)], [])) (S' := []) (h' := (jX (jup (jup f 28 ((x3 / u0))) 29 ((x4 / u0))) g n2 p pa s sa sw rp t, z)) rfl).trans ?_
  exact jev_fin rfl
set_option maxRecDepth 20000 in
theorem E_o_shared {D : Nat}  {a0 : Int32} {a1 : Int32} {f : Nat → Int32} {g : Nat → Nat → Int32} {n2 : Nat → Nat → Int64} {p : Nat → Nat → Int32} {pa : Nat → Nat → Nat → Int32} {s : Nat → Nat → Int32} {sa : Nat → Nat → Nat → Int32} {sw : Bool} {rp : Value} {t : List jE} {z : Nat × Nat × Nat × (Nat → Int32)}  : K_o_shared D a0 a1 f g n2 p pa s sa sw rp t z = K_o_shared_8 D (some (.int a0)) (some (.int a1)) (if 0 ≤ a0 then a0 else 0 - a0) (if 0 ≤ a1 then a1 else 0 - a1) 0 none f g n2 p pa s sa sw rp t z := by
  refine (jev_blk 1 (pc' := 1) (L' := ([some (.int a0), some (.int a1), none, none, none, none], [])) (S' := [.int a0]) (h' := (jX f g n2 p pa s sa sw rp t, z)) rfl).trans ?_
  refine (jev_prim (a := 5) (As := [.int a0]) (nx := 2) (rest := []) rfl (r := some (.int (if 0 ≤ a0 then a0 else 0 - a0))) (h' := (jX f g n2 p pa s sa sw rp t, z)) rfl).trans ?_
  refine (jev_blk 2 (pc' := 4) (L' := ([some (.int a0), some (.int a1), some (.int (if 0 ≤ a0 then a0 else 0 - a0)), none, none, none], [])) (S' := [.int a1]) (h' := (jX f g n2 p pa s sa sw rp t, z)) rfl).trans ?_
  refine (jev_prim (a := 5) (As := [.int a1]) (nx := 5) (rest := []) rfl (r := some (.int (if 0 ≤ a1 then a1 else 0 - a1))) (h' := (jX f g n2 p pa s sa sw rp t, z)) rfl).trans ?_
  exact jev_blk 3 rfl
set_option maxRecDepth 20000 in
theorem L_o_shared_8 {D : Nat}  {d0 : Option Value} {d1 : Option Value} {x2 : Int32} {x3 : Int32} {x4 : Int32} {d5 : Option Value} {f : Nat → Int32} {g : Nat → Nat → Int32} {n2 : Nat → Nat → Int64} {p : Nat → Nat → Int32} {pa : Nat → Nat → Nat → Int32} {s : Nat → Nat → Int32} {sa : Nat → Nat → Nat → Int32} {sw : Bool} {rp : Value} {t : List jE} {z : Nat × Nat × Nat × (Nat → Int32)}  : K_o_shared_8 D d0 d1 x2 x3 x4 d5 f g n2 p pa s sa sw rp t z = if x4 < 64 then (if x3 = 0 then (K_o_shared_23 D d0 d1 x2 (some (.int x3)) (some (.int x4)) d5 f g n2 p pa s sa sw rp t z) else (if x3 = 0 then none else (K_o_shared_8 D d0 d1 x3 (x2 - x2 / x3 * x3) (x4 + 1) (some (.int (x2 - x2 / x3 * x3))) f g n2 p pa s sa sw rp t z))) else (K_o_shared_23 D d0 d1 x2 (some (.int x3)) (some (.int x4)) d5 f g n2 p pa s sa sw rp t z) := by
  refine (jev_blk 3 (pc' := if x4 < 64 then 11 else 23) (L' := ([d0, d1, some (.int x2), some (.int x3), some (.int x4), d5], [])) (S' := []) (h' := (jX f g n2 p pa s sa sw rp t, z)) rfl).trans (jev_ite.trans (jite_congr (fun _ => ?_) (fun _ => ?_)))
  · refine (jev_blk 2 (pc' := if x3 = 0 then 23 else 13) (L' := ([d0, d1, some (.int x2), some (.int x3), some (.int x4), d5], [])) (S' := []) (h' := (jX f g n2 p pa s sa sw rp t, z)) rfl).trans (jev_ite.trans (jite_congr (fun _ => ?_) (fun _ => ?_)))
    · rfl
    · refine (jev_blk 2 (pc' := 15) (L' := ([d0, d1, some (.int x2), some (.int x3), some (.int x4), d5], [])) (S' := [.int x3, .int x2]) (h' := (jX f g n2 p pa s sa sw rp t, z)) rfl).trans ?_
      refine (jev_grd (q := x3 = 0) (pc' := 16) (L' := ([d0, d1, some (.int x2), some (.int x3), some (.int x4), d5], [])) (S' := [.int (x2 - x2 / x3 * x3)]) (h' := (jX f g n2 p pa s sa sw rp t, z)) rfl).trans (jite_congr (fun _ => rfl) (fun _ => ?_))
      exact jev_blk 7 rfl
  · rfl
set_option maxRecDepth 20000 in
theorem E_o_shared_23 {D : Nat}  {d0 : Option Value} {d1 : Option Value} {x2 : Int32} {d3 : Option Value} {d4 : Option Value} {d5 : Option Value} {f : Nat → Int32} {g : Nat → Nat → Int32} {n2 : Nat → Nat → Int64} {p : Nat → Nat → Int32} {pa : Nat → Nat → Nat → Int32} {s : Nat → Nat → Int32} {sa : Nat → Nat → Nat → Int32} {sw : Bool} {rp : Value} {t : List jE} {z : Nat × Nat × Nat × (Nat → Int32)}  : K_o_shared_23 D d0 d1 x2 d3 d4 d5 f g n2 p pa s sa sw rp t z = some (.inl (some (.int (if 1 < x2 then x2 else 1))), (jX f g n2 p pa s sa sw rp t, z)) := by
  refine (jev_blk 2 (pc' := 25) (L' := ([d0, d1, some (.int x2), d3, d4, d5], [])) (S' := [.int x2, .int 1]) (h' := (jX f g n2 p pa s sa sw rp t, z)) rfl).trans ?_
  refine (jev_prim (a := 7) (As := [.int 1, .int x2]) (nx := 26) (rest := []) rfl (r := some (.int (if 1 < x2 then x2 else 1))) (h' := (jX f g n2 p pa s sa sw rp t, z)) rfl).trans ?_
  exact jev_fin rfl
set_option maxRecDepth 20000 in
theorem E_n_clear {D : Nat}   {f : Nat → Int32} {g : Nat → Nat → Int32} {n2 : Nat → Nat → Int64} {p : Nat → Nat → Int32} {pa : Nat → Nat → Nat → Int32} {s : Nat → Nat → Int32} {sa : Nat → Nat → Nat → Int32} {sw : Bool} {rp : Value} {t : List jE} {z : Nat × Nat × Nat × (Nat → Int32)}  : K_n_clear D f g n2 p pa s sa sw rp t z = some (.inl (none), (jX (jup (jup f 24 (0)) 25 ((-1))) g n2 p pa s sa sw rp t, z)) := by
  refine (jev_blk 6 (pc' := 6) (L' := ([some (.ref 71)], [])) (S' := []) (h' := (jX (jup (jup f 24 (0)) 25 ((-1))) g n2 p pa s sa sw rp t, z)) rfl).trans ?_
  exact jev_fin rfl
set_option maxRecDepth 20000 in
theorem E_n_addCrop {D : Nat}  {a0 : Int32} {a1 : Int32} {a2 : Int32} {a3 : Int32} {f : Nat → Int32} {g : Nat → Nat → Int32} {n2 : Nat → Nat → Int64} {p : Nat → Nat → Int32} {pa : Nat → Nat → Nat → Int32} {s : Nat → Nat → Int32} {sa : Nat → Nat → Nat → Int32} {sw : Bool} {rp : Value} {t : List jE} {z : Nat × Nat × Nat × (Nat → Int32)}  : K_n_addCrop D a0 a1 a2 a3 f g n2 p pa s sa sw rp t z = if a3 = 0 then (K_n_addCrop_6 D a0 a1 a2 (some (.int a3)) 1 f g n2 p pa s sa sw rp t z) else (K_n_addCrop_6 D a0 a1 a2 (some (.int a3)) 2 f g n2 p pa s sa sw rp t z) := by
  refine (jev_blk 3 (pc' := if a3 = 0 then 5 else 3) (L' := ([some (.ref 71), some (.int a0), some (.int a1), some (.int a2), some (.int a3)], [])) (S' := [.ref 71]) (h' := (jX f g n2 p pa s sa sw rp t, z)) rfl).trans (jev_ite.trans (jite_congr (fun _ => ?_) (fun _ => ?_)))
  · exact jev_blk 1 rfl
  · exact jev_blk 2 rfl
set_option maxRecDepth 20000 in
theorem E_n_addCrop_6 {D : Nat}  {x1 : Int32} {x2 : Int32} {x3 : Int32} {d4 : Option Value} {u0 : Int32} {f : Nat → Int32} {g : Nat → Nat → Int32} {n2 : Nat → Nat → Int64} {p : Nat → Nat → Int32} {pa : Nat → Nat → Nat → Int32} {s : Nat → Nat → Int32} {sa : Nat → Nat → Nat → Int32} {sw : Bool} {rp : Value} {t : List jE} {z : Nat × Nat × Nat × (Nat → Int32)}  : K_n_addCrop_6 D x1 x2 x3 d4 u0 f g n2 p pa s sa sw rp t z = jbO (K_n_add D u0 x1 x2 x3 f g n2 p pa s sa sw rp t z) (jk D 31 10 ([some (.ref 71), some (.int x1), some (.int x2), some (.int x3), d4], []) []) := by
  refine (jev_blk 3 (pc' := 9) (L' := ([some (.ref 71), some (.int x1), some (.int x2), some (.int x3), d4], [])) (S' := [.int x3, .int x2, .int x1, .int u0, .ref 71]) (h' := (jX f g n2 p pa s sa sw rp t, z)) rfl).trans ?_
  exact jev_callb (nx := 10) (rest := []) rfl
set_option maxRecDepth 20000 in
theorem E_n_addCrop_10 {D : Nat}  {d1 : Option Value} {d2 : Option Value} {d3 : Option Value} {d4 : Option Value} {u0 : Int32} {f : Nat → Int32} {g : Nat → Nat → Int32} {n2 : Nat → Nat → Int64} {p : Nat → Nat → Int32} {pa : Nat → Nat → Nat → Int32} {s : Nat → Nat → Int32} {sa : Nat → Nat → Nat → Int32} {sw : Bool} {rp : Value} {t : List jE} {z : Nat × Nat × Nat × (Nat → Int32)}  : jev D 31 10 ([some (.ref 71), d1, d2, d3, d4], []) [.int u0] (jX f g n2 p pa s sa sw rp t, z) = some (.inl (some (.int u0)), (jX f g n2 p pa s sa sw rp t, z)) := by
  exact jev_fin rfl
set_option maxRecDepth 20000 in
theorem E_n_addStrike {D : Nat}  {a0 : Int32} {f : Nat → Int32} {g : Nat → Nat → Int32} {n2 : Nat → Nat → Int64} {p : Nat → Nat → Int32} {pa : Nat → Nat → Nat → Int32} {s : Nat → Nat → Int32} {sa : Nat → Nat → Nat → Int32} {sw : Bool} {rp : Value} {t : List jE} {z : Nat × Nat × Nat × (Nat → Int32)}  : K_n_addStrike D a0 f g n2 p pa s sa sw rp t z = if a0 < 0 then (some (.inl (some (.int (-1))), (jX f g n2 p pa s sa sw rp t, z))) else (if a0 < (f 24) then (jbO (K_n_add D 0 0 a0 0 f g n2 p pa s sa sw rp t z) (jk D 32 14 ([some (.ref 71), some (.int a0)], []) [])) else (some (.inl (some (.int (-1))), (jX f g n2 p pa s sa sw rp t, z)))) := by
  refine (jev_blk 2 (pc' := if a0 < 0 then 6 else 2) (L' := ([some (.ref 71), some (.int a0)], [])) (S' := []) (h' := (jX f g n2 p pa s sa sw rp t, z)) rfl).trans (jev_ite.trans (jite_congr (fun _ => ?_) (fun _ => ?_)))
  · refine (jev_blk 2 (pc' := 14) (L' := ([some (.ref 71), some (.int a0)], [])) (S' := [.int (-1)]) (h' := (jX f g n2 p pa s sa sw rp t, z)) rfl).trans ?_
    exact jev_fin rfl
  · refine (jev_blk 4 (pc' := if a0 < (f 24) then 8 else 6) (L' := ([some (.ref 71), some (.int a0)], [])) (S' := []) (h' := (jX f g n2 p pa s sa sw rp t, z)) rfl).trans (jev_ite.trans (jite_congr (fun _ => ?_) (fun _ => ?_)))
    · refine (jev_blk 5 (pc' := 13) (L' := ([some (.ref 71), some (.int a0)], [])) (S' := [.int 0, .int a0, .int 0, .int 0, .ref 71]) (h' := (jX f g n2 p pa s sa sw rp t, z)) rfl).trans ?_
      exact jev_callb (nx := 14) (rest := []) rfl
    · refine (jev_blk 2 (pc' := 14) (L' := ([some (.ref 71), some (.int a0)], [])) (S' := [.int (-1)]) (h' := (jX f g n2 p pa s sa sw rp t, z)) rfl).trans ?_
      exact jev_fin rfl
set_option maxRecDepth 20000 in
theorem E_n_addStrike_14 {D : Nat}  {d1 : Option Value} {u0 : Int32} {f : Nat → Int32} {g : Nat → Nat → Int32} {n2 : Nat → Nat → Int64} {p : Nat → Nat → Int32} {pa : Nat → Nat → Nat → Int32} {s : Nat → Nat → Int32} {sa : Nat → Nat → Nat → Int32} {sw : Bool} {rp : Value} {t : List jE} {z : Nat × Nat × Nat × (Nat → Int32)}  : jev D 32 14 ([some (.ref 71), d1], []) [.int u0] (jX f g n2 p pa s sa sw rp t, z) = some (.inl (some (.int u0)), (jX f g n2 p pa s sa sw rp t, z)) := by
  exact jev_fin rfl
set_option maxRecDepth 20000 in
theorem E_n_add {D : Nat}  {a0 : Int32} {a1 : Int32} {a2 : Int32} {a3 : Int32} {f : Nat → Int32} {g : Nat → Nat → Int32} {n2 : Nat → Nat → Int64} {p : Nat → Nat → Int32} {pa : Nat → Nat → Nat → Int32} {s : Nat → Nat → Int32} {sa : Nat → Nat → Nat → Int32} {sw : Bool} {rp : Value} {t : List jE} {z : Nat × Nat × Nat × (Nat → Int32)}  : K_n_add D a0 a1 a2 a3 f g n2 p pa s sa sw rp t z = if (f 24) < 24 then (if jout (f 24) 24 then none else (jev D 33 17 ([some (.ref 71), some (.int a0), some (.int a1), some (.int a2), some (.int a3)], []) [.int a1, .int (f 24), .ref 73] (jX f (jup g 7 ((jup (g 7) ((f 24).toNatClampNeg) a0))) n2 p pa s sa sw rp t, z))) else (some (.inl (some (.int (-1))), (jX f g n2 p pa s sa sw rp t, z))) := by
  refine (jev_blk 4 (pc' := if (f 24) < 24 then 6 else 4) (L' := ([some (.ref 71), some (.int a0), some (.int a1), some (.int a2), some (.int a3)], [])) (S' := []) (h' := (jX f g n2 p pa s sa sw rp t, z)) rfl).trans (jev_ite.trans (jite_congr (fun _ => ?_) (fun _ => ?_)))
  · refine (jev_blk 5 (pc' := 11) (L' := ([some (.ref 71), some (.int a0), some (.int a1), some (.int a2), some (.int a3)], [])) (S' := [.int a0, .int (f 24), .ref 72]) (h' := (jX f g n2 p pa s sa sw rp t, z)) rfl).trans ?_
    refine (jev_grd (q := jout (f 24) 24) (pc' := 12) (L' := ([some (.ref 71), some (.int a0), some (.int a1), some (.int a2), some (.int a3)], [])) (S' := []) (h' := (jX f (jup g 7 ((jup (g 7) ((f 24).toNatClampNeg) a0))) n2 p pa s sa sw rp t, z)) rfl).trans (jite_congr (fun _ => rfl) (fun _ => ?_))
    exact jev_blk 5 rfl
  · refine (jev_blk 1 (pc' := 5) (L' := ([some (.ref 71), some (.int a0), some (.int a1), some (.int a2), some (.int a3)], [])) (S' := [.int (-1)]) (h' := (jX f g n2 p pa s sa sw rp t, z)) rfl).trans ?_
    exact jev_fin rfl
set_option maxRecDepth 20000 in
theorem E_n_add_17 {D : Nat}  {d1 : Option Value} {d2 : Option Value} {x3 : Int32} {x4 : Int32} {u0 : Int32} {u1 : Int32} {f : Nat → Int32} {g : Nat → Nat → Int32} {n2 : Nat → Nat → Int64} {p : Nat → Nat → Int32} {pa : Nat → Nat → Nat → Int32} {s : Nat → Nat → Int32} {sa : Nat → Nat → Nat → Int32} {sw : Bool} {rp : Value} {t : List jE} {z : Nat × Nat × Nat × (Nat → Int32)}  : jev D 33 17 ([some (.ref 71), d1, d2, some (.int x3), some (.int x4)], []) [.int u0, .int u1, .ref 73] (jX f g n2 p pa s sa sw rp t, z) = if jout u1 24 then none else (jev D 33 23 ([some (.ref 71), d1, d2, some (.int x3), some (.int x4)], []) [.int x3, .int (f 24), .ref 74] (jX f (jup g 8 ((jup (g 8) (u1.toNatClampNeg) u0))) n2 p pa s sa sw rp t, z)) := by
  refine (jev_grd (q := jout u1 24) (pc' := 18) (L' := ([some (.ref 71), d1, d2, some (.int x3), some (.int x4)], [])) (S' := []) (h' := (jX f (jup g 8 ((jup (g 8) (u1.toNatClampNeg) u0))) n2 p pa s sa sw rp t, z)) rfl).trans (jite_congr (fun _ => rfl) (fun _ => ?_))
  exact jev_blk 5 rfl
set_option maxRecDepth 20000 in
theorem E_n_add_23 {D : Nat}  {d1 : Option Value} {d2 : Option Value} {d3 : Option Value} {x4 : Int32} {u0 : Int32} {u1 : Int32} {f : Nat → Int32} {g : Nat → Nat → Int32} {n2 : Nat → Nat → Int64} {p : Nat → Nat → Int32} {pa : Nat → Nat → Nat → Int32} {s : Nat → Nat → Int32} {sa : Nat → Nat → Nat → Int32} {sw : Bool} {rp : Value} {t : List jE} {z : Nat × Nat × Nat × (Nat → Int32)}  : jev D 33 23 ([some (.ref 71), d1, d2, d3, some (.int x4)], []) [.int u0, .int u1, .ref 74] (jX f g n2 p pa s sa sw rp t, z) = if jout u1 24 then none else (jev D 33 29 ([some (.ref 71), d1, d2, d3, some (.int x4)], []) [.int x4, .int (f 24), .ref 75] (jX f (jup g 9 ((jup (g 9) (u1.toNatClampNeg) u0))) n2 p pa s sa sw rp t, z)) := by
  refine (jev_grd (q := jout u1 24) (pc' := 24) (L' := ([some (.ref 71), d1, d2, d3, some (.int x4)], [])) (S' := []) (h' := (jX f (jup g 9 ((jup (g 9) (u1.toNatClampNeg) u0))) n2 p pa s sa sw rp t, z)) rfl).trans (jite_congr (fun _ => rfl) (fun _ => ?_))
  exact jev_blk 5 rfl
set_option maxRecDepth 20000 in
theorem E_n_add_29 {D : Nat}  {d1 : Option Value} {d2 : Option Value} {d3 : Option Value} {d4 : Option Value} {u0 : Int32} {u1 : Int32} {f : Nat → Int32} {g : Nat → Nat → Int32} {n2 : Nat → Nat → Int64} {p : Nat → Nat → Int32} {pa : Nat → Nat → Nat → Int32} {s : Nat → Nat → Int32} {sa : Nat → Nat → Nat → Int32} {sw : Bool} {rp : Value} {t : List jE} {z : Nat × Nat × Nat × (Nat → Int32)}  : jev D 33 29 ([some (.ref 71), d1, d2, d3, d4], []) [.int u0, .int u1, .ref 75] (jX f g n2 p pa s sa sw rp t, z) = if jout u1 24 then none else (some (.inl (some (.int (((f 24) + 1) - 1))), (jX (jup f 24 (((f 24) + 1))) (jup g 10 ((jup (g 10) (u1.toNatClampNeg) u0))) n2 p pa s sa sw rp t, z))) := by
  refine (jev_grd (q := jout u1 24) (pc' := 30) (L' := ([some (.ref 71), d1, d2, d3, d4], [])) (S' := []) (h' := (jX f (jup g 10 ((jup (g 10) (u1.toNatClampNeg) u0))) n2 p pa s sa sw rp t, z)) rfl).trans (jite_congr (fun _ => rfl) (fun _ => ?_))
  refine (jev_blk 10 (pc' := 40) (L' := ([some (.ref 71), d1, d2, d3, d4], [])) (S' := [.int (((f 24) + 1) - 1)]) (h' := (jX (jup f 24 (((f 24) + 1))) (jup g 10 ((jup (g 10) (u1.toNatClampNeg) u0))) n2 p pa s sa sw rp t, z)) rfl).trans ?_
  exact jev_fin rfl
set_option maxRecDepth 20000 in
theorem E_n_know {D : Nat}  {a0 : Int32} {f : Nat → Int32} {g : Nat → Nat → Int32} {n2 : Nat → Nat → Int64} {p : Nat → Nat → Int32} {pa : Nat → Nat → Nat → Int32} {s : Nat → Nat → Int32} {sa : Nat → Nat → Nat → Int32} {sw : Bool} {rp : Value} {t : List jE} {z : Nat × Nat × Nat × (Nat → Int32)}  : K_n_know D a0 f g n2 p pa s sa sw rp t z = if a0 < (-1) then (some (.inl (some (.int 0)), (jX f g n2 p pa s sa sw rp t, z))) else (if (f 24) < a0 then (some (.inl (some (.int 0)), (jX f g n2 p pa s sa sw rp t, z))) else (some (.inl (some (.int 1)), (jX (jup f 25 (a0)) g n2 p pa s sa sw rp t, z)))) := by
  refine (jev_blk 3 (pc' := if a0 < (-1) then 7 else 3) (L' := ([some (.ref 71), some (.int a0)], [])) (S' := []) (h' := (jX f g n2 p pa s sa sw rp t, z)) rfl).trans (jev_ite.trans (jite_congr (fun _ => ?_) (fun _ => ?_)))
  · refine (jev_blk 1 (pc' := 8) (L' := ([some (.ref 71), some (.int a0)], [])) (S' := [.int 0]) (h' := (jX f g n2 p pa s sa sw rp t, z)) rfl).trans ?_
    exact jev_fin rfl
  · refine (jev_blk 4 (pc' := if (f 24) < a0 then 7 else 9) (L' := ([some (.ref 71), some (.int a0)], [])) (S' := []) (h' := (jX f g n2 p pa s sa sw rp t, z)) rfl).trans (jev_ite.trans (jite_congr (fun _ => ?_) (fun _ => ?_)))
    · refine (jev_blk 1 (pc' := 8) (L' := ([some (.ref 71), some (.int a0)], [])) (S' := [.int 0]) (h' := (jX f g n2 p pa s sa sw rp t, z)) rfl).trans ?_
      exact jev_fin rfl
    · refine (jev_blk 4 (pc' := 13) (L' := ([some (.ref 71), some (.int a0)], [])) (S' := [.int 1]) (h' := (jX (jup f 25 (a0)) g n2 p pa s sa sw rp t, z)) rfl).trans ?_
      exact jev_fin rfl
set_option maxRecDepth 20000 in
theorem E_n_knownCount {D : Nat}   {f : Nat → Int32} {g : Nat → Nat → Int32} {n2 : Nat → Nat → Int64} {p : Nat → Nat → Int32} {pa : Nat → Nat → Nat → Int32} {s : Nat → Nat → Int32} {sa : Nat → Nat → Nat → Int32} {sw : Bool} {rp : Value} {t : List jE} {z : Nat × Nat × Nat × (Nat → Int32)}  : K_n_knownCount D f g n2 p pa s sa sw rp t z = if (f 25) = (-1) then (some (.inl (some (.int (f 24))), (jX f g n2 p pa s sa sw rp t, z))) else (some (.inl (some (.int (if (f 24) < (f 25) then (f 24) else (f 25)))), (jX f g n2 p pa s sa sw rp t, z))) := by
  refine (jev_blk 4 (pc' := if (f 25) = (-1) then 4 else 7) (L' := ([some (.ref 71)], [])) (S' := []) (h' := (jX f g n2 p pa s sa sw rp t, z)) rfl).trans (jev_ite.trans (jite_congr (fun _ => ?_) (fun _ => ?_)))
  · refine (jev_blk 3 (pc' := 12) (L' := ([some (.ref 71)], [])) (S' := [.int (f 24)]) (h' := (jX f g n2 p pa s sa sw rp t, z)) rfl).trans ?_
    exact jev_fin rfl
  · refine (jev_blk 4 (pc' := 11) (L' := ([some (.ref 71)], [])) (S' := [.int (f 24), .int (f 25)]) (h' := (jX f g n2 p pa s sa sw rp t, z)) rfl).trans ?_
    refine (jev_prim (a := 8) (As := [.int (f 25), .int (f 24)]) (nx := 12) (rest := []) rfl (r := some (.int (if (f 24) < (f 25) then (f 24) else (f 25)))) (h' := (jX f g n2 p pa s sa sw rp t, z)) rfl).trans ?_
    exact jev_fin rfl
set_option maxRecDepth 20000 in
theorem E_n_standing {D : Nat}   {f : Nat → Int32} {g : Nat → Nat → Int32} {n2 : Nat → Nat → Int64} {p : Nat → Nat → Int32} {pa : Nat → Nat → Nat → Int32} {s : Nat → Nat → Int32} {sa : Nat → Nat → Nat → Int32} {sw : Bool} {rp : Value} {t : List jE} {z : Nat × Nat × Nat × (Nat → Int32)}  : K_n_standing D f g n2 p pa s sa sw rp t z = jbO (K_n_knownCount D f g n2 p pa s sa sw rp t z) (jk D 36 6 ([some (.ref 71), some (.int 0), some (.int 0), none, none], []) []) := by
  refine (jev_blk 5 (pc' := 5) (L' := ([some (.ref 71), some (.int 0), some (.int 0), none, none], [])) (S' := [.ref 71]) (h' := (jX f g n2 p pa s sa sw rp t, z)) rfl).trans ?_
  exact jev_callb (nx := 6) (rest := []) rfl
set_option maxRecDepth 20000 in
theorem E_n_standing_6 {D : Nat}  {x1 : Int32} {x2 : Int32} {d3 : Option Value} {d4 : Option Value} {u0 : Int32} {f : Nat → Int32} {g : Nat → Nat → Int32} {n2 : Nat → Nat → Int64} {p : Nat → Nat → Int32} {pa : Nat → Nat → Nat → Int32} {s : Nat → Nat → Int32} {sa : Nat → Nat → Nat → Int32} {sw : Bool} {rp : Value} {t : List jE} {z : Nat × Nat × Nat × (Nat → Int32)}  : jev D 36 6 ([some (.ref 71), some (.int x1), some (.int x2), d3, d4], []) [.int u0] (jX f g n2 p pa s sa sw rp t, z) = K_n_standing_9 D x1 x2 (u0 - 1) d4 f g n2 p pa s sa sw rp t z := by
  exact jev_blk 3 rfl
set_option maxRecDepth 20000 in
theorem L_n_standing_9 {D : Nat}  {x1 : Int32} {x2 : Int32} {x3 : Int32} {d4 : Option Value} {f : Nat → Int32} {g : Nat → Nat → Int32} {n2 : Nat → Nat → Int64} {p : Nat → Nat → Int32} {pa : Nat → Nat → Nat → Int32} {s : Nat → Nat → Int32} {sa : Nat → Nat → Nat → Int32} {sw : Bool} {rp : Value} {t : List jE} {z : Nat × Nat × Nat × (Nat → Int32)}  : K_n_standing_9 D x1 x2 x3 d4 f g n2 p pa s sa sw rp t z = if x3 < 0 then (some (.inl (some (.int x2)), (jX f g n2 p pa s sa sw rp t, z))) else (if ((x1 >>> (x3 &&& 31)) &&& 1) = 0 then (K_n_standing_20 D x1 x2 x3 d4 1 f g n2 p pa s sa sw rp t z) else (K_n_standing_20 D x1 x2 x3 d4 0 f g n2 p pa s sa sw rp t z)) := by
  refine (jev_blk 2 (pc' := if x3 < 0 then 48 else 11) (L' := ([some (.ref 71), some (.int x1), some (.int x2), some (.int x3), d4], [])) (S' := []) (h' := (jX f g n2 p pa s sa sw rp t, z)) rfl).trans (jev_ite.trans (jite_congr (fun _ => ?_) (fun _ => ?_)))
  · refine (jev_blk 1 (pc' := 49) (L' := ([some (.ref 71), some (.int x1), some (.int x2), some (.int x3), d4], [])) (S' := [.int x2]) (h' := (jX f g n2 p pa s sa sw rp t, z)) rfl).trans ?_
    exact jev_fin rfl
  · refine (jev_blk 6 (pc' := if ((x1 >>> (x3 &&& 31)) &&& 1) = 0 then 17 else 19) (L' := ([some (.ref 71), some (.int x1), some (.int x2), some (.int x3), d4], [])) (S' := []) (h' := (jX f g n2 p pa s sa sw rp t, z)) rfl).trans (jev_ite.trans (jite_congr (fun _ => ?_) (fun _ => ?_)))
    · exact jev_blk 2 rfl
    · exact jev_blk 1 rfl
set_option maxRecDepth 20000 in
theorem E_n_standing_20 {D : Nat}  {x1 : Int32} {x2 : Int32} {x3 : Int32} {d4 : Option Value} {u0 : Int32} {f : Nat → Int32} {g : Nat → Nat → Int32} {n2 : Nat → Nat → Int64} {p : Nat → Nat → Int32} {pa : Nat → Nat → Nat → Int32} {s : Nat → Nat → Int32} {sa : Nat → Nat → Nat → Int32} {sw : Bool} {rp : Value} {t : List jE} {z : Nat × Nat × Nat × (Nat → Int32)}  : K_n_standing_20 D x1 x2 x3 d4 u0 f g n2 p pa s sa sw rp t z = if u0 = 0 then (K_n_standing_38 D x1 x2 x3 u0 f g n2 p pa s sa sw rp t z) else (if jout x3 24 then none else (if (g 7 x3.toNatClampNeg) = 0 then (if jout x3 24 then none else (K_n_standing_46 D (x1 ||| (1 <<< ((g 9 x3.toNatClampNeg) &&& 31))) x2 x3 (some (.int u0)) f g n2 p pa s sa sw rp t z)) else (K_n_standing_38 D x1 x2 x3 u0 f g n2 p pa s sa sw rp t z))) := by
  refine (jev_blk 3 (pc' := if u0 = 0 then 38 else 23) (L' := ([some (.ref 71), some (.int x1), some (.int x2), some (.int x3), some (.int u0)], [])) (S' := []) (h' := (jX f g n2 p pa s sa sw rp t, z)) rfl).trans (jev_ite.trans (jite_congr (fun _ => ?_) (fun _ => ?_)))
  · rfl
  · refine (jev_blk 3 (pc' := 26) (L' := ([some (.ref 71), some (.int x1), some (.int x2), some (.int x3), some (.int u0)], [])) (S' := [.int x3, .ref 72]) (h' := (jX f g n2 p pa s sa sw rp t, z)) rfl).trans ?_
    refine (jev_grd (q := jout x3 24) (pc' := 27) (L' := ([some (.ref 71), some (.int x1), some (.int x2), some (.int x3), some (.int u0)], [])) (S' := [.int (g 7 x3.toNatClampNeg)]) (h' := (jX f g n2 p pa s sa sw rp t, z)) rfl).trans (jite_congr (fun _ => rfl) (fun _ => ?_))
    refine (jev_blk 1 (pc' := if (g 7 x3.toNatClampNeg) = 0 then 28 else 38) (L' := ([some (.ref 71), some (.int x1), some (.int x2), some (.int x3), some (.int u0)], [])) (S' := []) (h' := (jX f g n2 p pa s sa sw rp t, z)) rfl).trans (jev_ite.trans (jite_congr (fun _ => ?_) (fun _ => ?_)))
    · refine (jev_blk 5 (pc' := 33) (L' := ([some (.ref 71), some (.int x1), some (.int x2), some (.int x3), some (.int u0)], [])) (S' := [.int x3, .ref 74, .int 1, .int x1]) (h' := (jX f g n2 p pa s sa sw rp t, z)) rfl).trans ?_
      refine (jev_grd (q := jout x3 24) (pc' := 34) (L' := ([some (.ref 71), some (.int x1), some (.int x2), some (.int x3), some (.int u0)], [])) (S' := [.int (g 9 x3.toNatClampNeg), .int 1, .int x1]) (h' := (jX f g n2 p pa s sa sw rp t, z)) rfl).trans (jite_congr (fun _ => rfl) (fun _ => ?_))
      exact jev_blk 4 rfl
    · rfl
set_option maxRecDepth 20000 in
theorem E_n_standing_38 {D : Nat}  {x1 : Int32} {x2 : Int32} {x3 : Int32} {x4 : Int32} {f : Nat → Int32} {g : Nat → Nat → Int32} {n2 : Nat → Nat → Int64} {p : Nat → Nat → Int32} {pa : Nat → Nat → Nat → Int32} {s : Nat → Nat → Int32} {sa : Nat → Nat → Nat → Int32} {sw : Bool} {rp : Value} {t : List jE} {z : Nat × Nat × Nat × (Nat → Int32)}  : K_n_standing_38 D x1 x2 x3 x4 f g n2 p pa s sa sw rp t z = if x4 = 0 then (K_n_standing_46 D x1 x2 x3 (some (.int x4)) f g n2 p pa s sa sw rp t z) else (K_n_standing_46 D x1 (x2 ||| (1 <<< (x3 &&& 31))) x3 (some (.int x4)) f g n2 p pa s sa sw rp t z) := by
  refine (jev_blk 2 (pc' := if x4 = 0 then 46 else 40) (L' := ([some (.ref 71), some (.int x1), some (.int x2), some (.int x3), some (.int x4)], [])) (S' := []) (h' := (jX f g n2 p pa s sa sw rp t, z)) rfl).trans (jev_ite.trans (jite_congr (fun _ => ?_) (fun _ => ?_)))
  · rfl
  · exact jev_blk 6 rfl
set_option maxRecDepth 20000 in
theorem E_n_standing_46 {D : Nat}  {x1 : Int32} {x2 : Int32} {x3 : Int32} {d4 : Option Value} {f : Nat → Int32} {g : Nat → Nat → Int32} {n2 : Nat → Nat → Int64} {p : Nat → Nat → Int32} {pa : Nat → Nat → Nat → Int32} {s : Nat → Nat → Int32} {sa : Nat → Nat → Nat → Int32} {sw : Bool} {rp : Value} {t : List jE} {z : Nat × Nat × Nat × (Nat → Int32)}  : K_n_standing_46 D x1 x2 x3 d4 f g n2 p pa s sa sw rp t z = K_n_standing_9 D x1 x2 (x3 + (-1)) d4 f g n2 p pa s sa sw rp t z := by
  exact jev_blk 2 rfl
set_option maxRecDepth 20000 in
theorem E_n_lastHours {D : Nat}  {a0 : Int32} {f : Nat → Int32} {g : Nat → Nat → Int32} {n2 : Nat → Nat → Int64} {p : Nat → Nat → Int32} {pa : Nat → Nat → Nat → Int32} {s : Nat → Nat → Int32} {sa : Nat → Nat → Nat → Int32} {sw : Bool} {rp : Value} {t : List jE} {z : Nat × Nat × Nat × (Nat → Int32)}  : K_n_lastHours D a0 f g n2 p pa s sa sw rp t z = K_n_lastHours_4 D a0 0 0 f g n2 p pa s sa sw rp t z := by
  exact jev_blk 4 rfl
set_option maxRecDepth 20000 in
theorem L_n_lastHours_4 {D : Nat}  {x1 : Int32} {x2 : Int32} {x3 : Int32} {f : Nat → Int32} {g : Nat → Nat → Int32} {n2 : Nat → Nat → Int64} {p : Nat → Nat → Int32} {pa : Nat → Nat → Nat → Int32} {s : Nat → Nat → Int32} {sa : Nat → Nat → Nat → Int32} {sw : Bool} {rp : Value} {t : List jE} {z : Nat × Nat × Nat × (Nat → Int32)}  : K_n_lastHours_4 D x1 x2 x3 f g n2 p pa s sa sw rp t z = if x3 < (f 24) then (if ((x1 >>> (x3 &&& 31)) &&& 1) = 0 then (K_n_lastHours_22 D x1 (some (.int x2)) x3 x2 f g n2 p pa s sa sw rp t z) else (if jout x3 24 then none else (K_n_lastHours_22 D x1 (some (.int x2)) x3 (if x2 < (g 8 x3.toNatClampNeg) then (g 8 x3.toNatClampNeg) else x2) f g n2 p pa s sa sw rp t z))) else (some (.inl (some (.int x2)), (jX f g n2 p pa s sa sw rp t, z))) := by
  refine (jev_blk 4 (pc' := if x3 < (f 24) then 8 else 25) (L' := ([some (.ref 71), some (.int x1), some (.int x2), some (.int x3)], [])) (S' := []) (h' := (jX f g n2 p pa s sa sw rp t, z)) rfl).trans (jev_ite.trans (jite_congr (fun _ => ?_) (fun _ => ?_)))
  · refine (jev_blk 6 (pc' := if ((x1 >>> (x3 &&& 31)) &&& 1) = 0 then 21 else 14) (L' := ([some (.ref 71), some (.int x1), some (.int x2), some (.int x3)], [])) (S' := []) (h' := (jX f g n2 p pa s sa sw rp t, z)) rfl).trans (jev_ite.trans (jite_congr (fun _ => ?_) (fun _ => ?_)))
    · exact jev_blk 1 rfl
    · refine (jev_blk 4 (pc' := 18) (L' := ([some (.ref 71), some (.int x1), some (.int x2), some (.int x3)], [])) (S' := [.int x3, .ref 73, .int x2]) (h' := (jX f g n2 p pa s sa sw rp t, z)) rfl).trans ?_
      refine (jev_grd (q := jout x3 24) (pc' := 19) (L' := ([some (.ref 71), some (.int x1), some (.int x2), some (.int x3)], [])) (S' := [.int (g 8 x3.toNatClampNeg), .int x2]) (h' := (jX f g n2 p pa s sa sw rp t, z)) rfl).trans (jite_congr (fun _ => rfl) (fun _ => ?_))
      refine (jev_prim (a := 7) (As := [.int x2, .int (g 8 x3.toNatClampNeg)]) (nx := 20) (rest := []) rfl (r := some (.int (if x2 < (g 8 x3.toNatClampNeg) then (g 8 x3.toNatClampNeg) else x2))) (h' := (jX f g n2 p pa s sa sw rp t, z)) rfl).trans ?_
      exact jev_blk 1 rfl
  · refine (jev_blk 1 (pc' := 26) (L' := ([some (.ref 71), some (.int x1), some (.int x2), some (.int x3)], [])) (S' := [.int x2]) (h' := (jX f g n2 p pa s sa sw rp t, z)) rfl).trans ?_
    exact jev_fin rfl
set_option maxRecDepth 20000 in
theorem E_n_lastHours_22 {D : Nat}  {x1 : Int32} {d2 : Option Value} {x3 : Int32} {u0 : Int32} {f : Nat → Int32} {g : Nat → Nat → Int32} {n2 : Nat → Nat → Int64} {p : Nat → Nat → Int32} {pa : Nat → Nat → Nat → Int32} {s : Nat → Nat → Int32} {sa : Nat → Nat → Nat → Int32} {sw : Bool} {rp : Value} {t : List jE} {z : Nat × Nat × Nat × (Nat → Int32)}  : K_n_lastHours_22 D x1 d2 x3 u0 f g n2 p pa s sa sw rp t z = K_n_lastHours_4 D x1 u0 (x3 + 1) f g n2 p pa s sa sw rp t z := by
  exact jev_blk 3 rfl
set_option maxRecDepth 20000 in
theorem E_n_agree {D : Nat} {j : Nat} {a0 : Int32} {a1 : Int32} {f : Nat → Int32} {g : Nat → Nat → Int32} {n2 : Nat → Nat → Int64} {p : Nat → Nat → Int32} {pa : Nat → Nat → Nat → Int32} {s : Nat → Nat → Int32} {sa : Nat → Nat → Nat → Int32} {sw : Bool} {rp : Value} {t : List jE} {z : Nat × Nat × Nat × (Nat → Int32)} (hj : j < 3) : K_n_agree D j a0 a1 f g n2 p pa s sa sw rp t z = K_n_agree_2 D j a0 a1 0 none f g n2 p pa s sa sw rp t z := by
  rcases jlt3 hj with rfl | rfl | rfl
  · exact jev_blk 2 rfl
  · exact jev_blk 2 rfl
  · exact jev_blk 2 rfl
set_option maxRecDepth 20000 in
theorem L_n_agree_2 {D : Nat} {j : Nat} {x1 : Int32} {x2 : Int32} {x4 : Int32} {d5 : Option Value} {f : Nat → Int32} {g : Nat → Nat → Int32} {n2 : Nat → Nat → Int64} {p : Nat → Nat → Int32} {pa : Nat → Nat → Nat → Int32} {s : Nat → Nat → Int32} {sa : Nat → Nat → Nat → Int32} {sw : Bool} {rp : Value} {t : List jE} {z : Nat × Nat × Nat × (Nat → Int32)} (hj : j < 3) : K_n_agree_2 D j x1 x2 x4 d5 f g n2 p pa s sa sw rp t z = if x4 < (f 24) then (if ((x1 >>> (x4 &&& 31)) &&& 1) = 0 then (K_n_agree_25 D j x1 x2 x4 d5 f g n2 p pa s sa sw rp t z) else (if jout x4 24 then none else (if (g 7 x4.toNatClampNeg) = 0 then (K_n_agree_25 D j x1 x2 x4 d5 f g n2 p pa s sa sw rp t z) else (if jout x4 24 then none else (if (g 8 x4.toNatClampNeg) = x2 then (K_n_agree_26 D j x1 x2 x4 d5 1 f g n2 p pa s sa sw rp t z) else (K_n_agree_25 D j x1 x2 x4 d5 f g n2 p pa s sa sw rp t z)))))) else (some (.inl (some (.int 1)), (jX f g n2 p pa s sa sw rp t, z))) := by
  rcases jlt3 hj with rfl | rfl | rfl
  · refine (jev_blk 4 (pc' := if x4 < (f 24) then 6 else 58) (L' := ([some (.ref 71), some (.int x1), some (.int x2), some (.ref (49 + 6 * 0)), some (.int x4), d5], [])) (S' := []) (h' := (jX f g n2 p pa s sa sw rp t, z)) rfl).trans (jev_ite.trans (jite_congr (fun _ => ?_) (fun _ => ?_)))
    · refine (jev_blk 6 (pc' := if ((x1 >>> (x4 &&& 31)) &&& 1) = 0 then 25 else 12) (L' := ([some (.ref 71), some (.int x1), some (.int x2), some (.ref (49 + 6 * 0)), some (.int x4), d5], [])) (S' := []) (h' := (jX f g n2 p pa s sa sw rp t, z)) rfl).trans (jev_ite.trans (jite_congr (fun _ => ?_) (fun _ => ?_)))
      · rfl
      · refine (jev_blk 3 (pc' := 15) (L' := ([some (.ref 71), some (.int x1), some (.int x2), some (.ref (49 + 6 * 0)), some (.int x4), d5], [])) (S' := [.int x4, .ref 72]) (h' := (jX f g n2 p pa s sa sw rp t, z)) rfl).trans ?_
        refine (jev_grd (q := jout x4 24) (pc' := 16) (L' := ([some (.ref 71), some (.int x1), some (.int x2), some (.ref (49 + 6 * 0)), some (.int x4), d5], [])) (S' := [.int (g 7 x4.toNatClampNeg)]) (h' := (jX f g n2 p pa s sa sw rp t, z)) rfl).trans (jite_congr (fun _ => rfl) (fun _ => ?_))
        refine (jev_blk 1 (pc' := if (g 7 x4.toNatClampNeg) = 0 then 25 else 17) (L' := ([some (.ref 71), some (.int x1), some (.int x2), some (.ref (49 + 6 * 0)), some (.int x4), d5], [])) (S' := []) (h' := (jX f g n2 p pa s sa sw rp t, z)) rfl).trans (jev_ite.trans (jite_congr (fun _ => ?_) (fun _ => ?_)))
        · rfl
        · refine (jev_blk 3 (pc' := 20) (L' := ([some (.ref 71), some (.int x1), some (.int x2), some (.ref (49 + 6 * 0)), some (.int x4), d5], [])) (S' := [.int x4, .ref 73]) (h' := (jX f g n2 p pa s sa sw rp t, z)) rfl).trans ?_
          refine (jev_grd (q := jout x4 24) (pc' := 21) (L' := ([some (.ref 71), some (.int x1), some (.int x2), some (.ref (49 + 6 * 0)), some (.int x4), d5], [])) (S' := [.int (g 8 x4.toNatClampNeg)]) (h' := (jX f g n2 p pa s sa sw rp t, z)) rfl).trans (jite_congr (fun _ => rfl) (fun _ => ?_))
          refine (jev_blk 2 (pc' := if (g 8 x4.toNatClampNeg) = x2 then 23 else 25) (L' := ([some (.ref 71), some (.int x1), some (.int x2), some (.ref (49 + 6 * 0)), some (.int x4), d5], [])) (S' := []) (h' := (jX f g n2 p pa s sa sw rp t, z)) rfl).trans (jev_ite.trans (jite_congr (fun _ => ?_) (fun _ => ?_)))
          · exact jev_blk 2 rfl
          · rfl
    · refine (jev_blk 1 (pc' := 59) (L' := ([some (.ref 71), some (.int x1), some (.int x2), some (.ref (49 + 6 * 0)), some (.int x4), d5], [])) (S' := [.int 1]) (h' := (jX f g n2 p pa s sa sw rp t, z)) rfl).trans ?_
      exact jev_fin rfl
  · refine (jev_blk 4 (pc' := if x4 < (f 24) then 6 else 58) (L' := ([some (.ref 71), some (.int x1), some (.int x2), some (.ref (49 + 6 * 1)), some (.int x4), d5], [])) (S' := []) (h' := (jX f g n2 p pa s sa sw rp t, z)) rfl).trans (jev_ite.trans (jite_congr (fun _ => ?_) (fun _ => ?_)))
    · refine (jev_blk 6 (pc' := if ((x1 >>> (x4 &&& 31)) &&& 1) = 0 then 25 else 12) (L' := ([some (.ref 71), some (.int x1), some (.int x2), some (.ref (49 + 6 * 1)), some (.int x4), d5], [])) (S' := []) (h' := (jX f g n2 p pa s sa sw rp t, z)) rfl).trans (jev_ite.trans (jite_congr (fun _ => ?_) (fun _ => ?_)))
      · rfl
      · refine (jev_blk 3 (pc' := 15) (L' := ([some (.ref 71), some (.int x1), some (.int x2), some (.ref (49 + 6 * 1)), some (.int x4), d5], [])) (S' := [.int x4, .ref 72]) (h' := (jX f g n2 p pa s sa sw rp t, z)) rfl).trans ?_
        refine (jev_grd (q := jout x4 24) (pc' := 16) (L' := ([some (.ref 71), some (.int x1), some (.int x2), some (.ref (49 + 6 * 1)), some (.int x4), d5], [])) (S' := [.int (g 7 x4.toNatClampNeg)]) (h' := (jX f g n2 p pa s sa sw rp t, z)) rfl).trans (jite_congr (fun _ => rfl) (fun _ => ?_))
        refine (jev_blk 1 (pc' := if (g 7 x4.toNatClampNeg) = 0 then 25 else 17) (L' := ([some (.ref 71), some (.int x1), some (.int x2), some (.ref (49 + 6 * 1)), some (.int x4), d5], [])) (S' := []) (h' := (jX f g n2 p pa s sa sw rp t, z)) rfl).trans (jev_ite.trans (jite_congr (fun _ => ?_) (fun _ => ?_)))
        · rfl
        · refine (jev_blk 3 (pc' := 20) (L' := ([some (.ref 71), some (.int x1), some (.int x2), some (.ref (49 + 6 * 1)), some (.int x4), d5], [])) (S' := [.int x4, .ref 73]) (h' := (jX f g n2 p pa s sa sw rp t, z)) rfl).trans ?_
          refine (jev_grd (q := jout x4 24) (pc' := 21) (L' := ([some (.ref 71), some (.int x1), some (.int x2), some (.ref (49 + 6 * 1)), some (.int x4), d5], [])) (S' := [.int (g 8 x4.toNatClampNeg)]) (h' := (jX f g n2 p pa s sa sw rp t, z)) rfl).trans (jite_congr (fun _ => rfl) (fun _ => ?_))
          refine (jev_blk 2 (pc' := if (g 8 x4.toNatClampNeg) = x2 then 23 else 25) (L' := ([some (.ref 71), some (.int x1), some (.int x2), some (.ref (49 + 6 * 1)), some (.int x4), d5], [])) (S' := []) (h' := (jX f g n2 p pa s sa sw rp t, z)) rfl).trans (jev_ite.trans (jite_congr (fun _ => ?_) (fun _ => ?_)))
          · exact jev_blk 2 rfl
          · rfl
    · refine (jev_blk 1 (pc' := 59) (L' := ([some (.ref 71), some (.int x1), some (.int x2), some (.ref (49 + 6 * 1)), some (.int x4), d5], [])) (S' := [.int 1]) (h' := (jX f g n2 p pa s sa sw rp t, z)) rfl).trans ?_
      exact jev_fin rfl
  · refine (jev_blk 4 (pc' := if x4 < (f 24) then 6 else 58) (L' := ([some (.ref 71), some (.int x1), some (.int x2), some (.ref (49 + 6 * 2)), some (.int x4), d5], [])) (S' := []) (h' := (jX f g n2 p pa s sa sw rp t, z)) rfl).trans (jev_ite.trans (jite_congr (fun _ => ?_) (fun _ => ?_)))
    · refine (jev_blk 6 (pc' := if ((x1 >>> (x4 &&& 31)) &&& 1) = 0 then 25 else 12) (L' := ([some (.ref 71), some (.int x1), some (.int x2), some (.ref (49 + 6 * 2)), some (.int x4), d5], [])) (S' := []) (h' := (jX f g n2 p pa s sa sw rp t, z)) rfl).trans (jev_ite.trans (jite_congr (fun _ => ?_) (fun _ => ?_)))
      · rfl
      · refine (jev_blk 3 (pc' := 15) (L' := ([some (.ref 71), some (.int x1), some (.int x2), some (.ref (49 + 6 * 2)), some (.int x4), d5], [])) (S' := [.int x4, .ref 72]) (h' := (jX f g n2 p pa s sa sw rp t, z)) rfl).trans ?_
        refine (jev_grd (q := jout x4 24) (pc' := 16) (L' := ([some (.ref 71), some (.int x1), some (.int x2), some (.ref (49 + 6 * 2)), some (.int x4), d5], [])) (S' := [.int (g 7 x4.toNatClampNeg)]) (h' := (jX f g n2 p pa s sa sw rp t, z)) rfl).trans (jite_congr (fun _ => rfl) (fun _ => ?_))
        refine (jev_blk 1 (pc' := if (g 7 x4.toNatClampNeg) = 0 then 25 else 17) (L' := ([some (.ref 71), some (.int x1), some (.int x2), some (.ref (49 + 6 * 2)), some (.int x4), d5], [])) (S' := []) (h' := (jX f g n2 p pa s sa sw rp t, z)) rfl).trans (jev_ite.trans (jite_congr (fun _ => ?_) (fun _ => ?_)))
        · rfl
        · refine (jev_blk 3 (pc' := 20) (L' := ([some (.ref 71), some (.int x1), some (.int x2), some (.ref (49 + 6 * 2)), some (.int x4), d5], [])) (S' := [.int x4, .ref 73]) (h' := (jX f g n2 p pa s sa sw rp t, z)) rfl).trans ?_
          refine (jev_grd (q := jout x4 24) (pc' := 21) (L' := ([some (.ref 71), some (.int x1), some (.int x2), some (.ref (49 + 6 * 2)), some (.int x4), d5], [])) (S' := [.int (g 8 x4.toNatClampNeg)]) (h' := (jX f g n2 p pa s sa sw rp t, z)) rfl).trans (jite_congr (fun _ => rfl) (fun _ => ?_))
          refine (jev_blk 2 (pc' := if (g 8 x4.toNatClampNeg) = x2 then 23 else 25) (L' := ([some (.ref 71), some (.int x1), some (.int x2), some (.ref (49 + 6 * 2)), some (.int x4), d5], [])) (S' := []) (h' := (jX f g n2 p pa s sa sw rp t, z)) rfl).trans (jev_ite.trans (jite_congr (fun _ => ?_) (fun _ => ?_)))
          · exact jev_blk 2 rfl
          · rfl
    · refine (jev_blk 1 (pc' := 59) (L' := ([some (.ref 71), some (.int x1), some (.int x2), some (.ref (49 + 6 * 2)), some (.int x4), d5], [])) (S' := [.int 1]) (h' := (jX f g n2 p pa s sa sw rp t, z)) rfl).trans ?_
      exact jev_fin rfl
set_option maxRecDepth 20000 in
theorem E_n_agree_25 {D : Nat} {j : Nat} {x1 : Int32} {x2 : Int32} {x4 : Int32} {d5 : Option Value} {f : Nat → Int32} {g : Nat → Nat → Int32} {n2 : Nat → Nat → Int64} {p : Nat → Nat → Int32} {pa : Nat → Nat → Nat → Int32} {s : Nat → Nat → Int32} {sa : Nat → Nat → Nat → Int32} {sw : Bool} {rp : Value} {t : List jE} {z : Nat × Nat × Nat × (Nat → Int32)} (hj : j < 3) : K_n_agree_25 D j x1 x2 x4 d5 f g n2 p pa s sa sw rp t z = K_n_agree_26 D j x1 x2 x4 d5 0 f g n2 p pa s sa sw rp t z := by
  rcases jlt3 hj with rfl | rfl | rfl
  · exact jev_blk 1 rfl
  · exact jev_blk 1 rfl
  · exact jev_blk 1 rfl
set_option maxRecDepth 20000 in
theorem E_n_agree_26 {D : Nat} {j : Nat} {x1 : Int32} {x2 : Int32} {x4 : Int32} {d5 : Option Value} {u0 : Int32} {f : Nat → Int32} {g : Nat → Nat → Int32} {n2 : Nat → Nat → Int64} {p : Nat → Nat → Int32} {pa : Nat → Nat → Nat → Int32} {s : Nat → Nat → Int32} {sa : Nat → Nat → Nat → Int32} {sw : Bool} {rp : Value} {t : List jE} {z : Nat × Nat × Nat × (Nat → Int32)} (hj : j < 3) : K_n_agree_26 D j x1 x2 x4 d5 u0 f g n2 p pa s sa sw rp t z = if u0 = 0 then (K_n_agree_56 D j x1 x2 x4 (some (.int u0)) f g n2 p pa s sa sw rp t z) else (if jout x4 24 then none else (if jout (g 9 x4.toNatClampNeg) 30 then none else (if jout x4 24 then none else (if (sa j 0 (g 9 x4.toNatClampNeg).toNatClampNeg) < (g 10 x4.toNatClampNeg) then (K_n_agree_44 D j x1 x2 x4 (some (.int u0)) 0 f g n2 p pa s sa sw rp t z) else (K_n_agree_44 D j x1 x2 x4 (some (.int u0)) 1 f g n2 p pa s sa sw rp t z))))) := by
  rcases jlt3 hj with rfl | rfl | rfl
  · refine (jev_blk 3 (pc' := if u0 = 0 then 56 else 29) (L' := ([some (.ref 71), some (.int x1), some (.int x2), some (.ref (49 + 6 * 0)), some (.int x4), some (.int u0)], [])) (S' := []) (h' := (jX f g n2 p pa s sa sw rp t, z)) rfl).trans (jev_ite.trans (jite_congr (fun _ => ?_) (fun _ => ?_)))
    · rfl
    · refine (jev_blk 5 (pc' := 34) (L' := ([some (.ref 71), some (.int x1), some (.int x2), some (.ref (49 + 6 * 0)), some (.int x4), some (.int u0)], [])) (S' := [.int x4, .ref 74, .ref (50 + 6 * 0 + 0)]) (h' := (jX f g n2 p pa s sa sw rp t, z)) rfl).trans ?_
      refine (jev_grd (q := jout x4 24) (pc' := 35) (L' := ([some (.ref 71), some (.int x1), some (.int x2), some (.ref (49 + 6 * 0)), some (.int x4), some (.int u0)], [])) (S' := [.int (g 9 x4.toNatClampNeg), .ref (50 + 6 * 0 + 0)]) (h' := (jX f g n2 p pa s sa sw rp t, z)) rfl).trans (jite_congr (fun _ => rfl) (fun _ => ?_))
      refine (jev_grd (q := jout (g 9 x4.toNatClampNeg) 30) (pc' := 36) (L' := ([some (.ref 71), some (.int x1), some (.int x2), some (.ref (49 + 6 * 0)), some (.int x4), some (.int u0)], [])) (S' := [.int (sa 0 0 (g 9 x4.toNatClampNeg).toNatClampNeg)]) (h' := (jX f g n2 p pa s sa sw rp t, z)) rfl).trans (jite_congr (fun _ => rfl) (fun _ => ?_))
      refine (jev_blk 3 (pc' := 39) (L' := ([some (.ref 71), some (.int x1), some (.int x2), some (.ref (49 + 6 * 0)), some (.int x4), some (.int u0)], [])) (S' := [.int x4, .ref 75, .int (sa 0 0 (g 9 x4.toNatClampNeg).toNatClampNeg)]) (h' := (jX f g n2 p pa s sa sw rp t, z)) rfl).trans ?_
      refine (jev_grd (q := jout x4 24) (pc' := 40) (L' := ([some (.ref 71), some (.int x1), some (.int x2), some (.ref (49 + 6 * 0)), some (.int x4), some (.int u0)], [])) (S' := [.int (g 10 x4.toNatClampNeg), .int (sa 0 0 (g 9 x4.toNatClampNeg).toNatClampNeg)]) (h' := (jX f g n2 p pa s sa sw rp t, z)) rfl).trans (jite_congr (fun _ => rfl) (fun _ => ?_))
      refine (jev_blk 1 (pc' := if (sa 0 0 (g 9 x4.toNatClampNeg).toNatClampNeg) < (g 10 x4.toNatClampNeg) then 43 else 41) (L' := ([some (.ref 71), some (.int x1), some (.int x2), some (.ref (49 + 6 * 0)), some (.int x4), some (.int u0)], [])) (S' := []) (h' := (jX f g n2 p pa s sa sw rp t, z)) rfl).trans (jev_ite.trans (jite_congr (fun _ => ?_) (fun _ => ?_)))
      · exact jev_blk 1 rfl
      · exact jev_blk 2 rfl
  · refine (jev_blk 3 (pc' := if u0 = 0 then 56 else 29) (L' := ([some (.ref 71), some (.int x1), some (.int x2), some (.ref (49 + 6 * 1)), some (.int x4), some (.int u0)], [])) (S' := []) (h' := (jX f g n2 p pa s sa sw rp t, z)) rfl).trans (jev_ite.trans (jite_congr (fun _ => ?_) (fun _ => ?_)))
    · rfl
    · refine (jev_blk 5 (pc' := 34) (L' := ([some (.ref 71), some (.int x1), some (.int x2), some (.ref (49 + 6 * 1)), some (.int x4), some (.int u0)], [])) (S' := [.int x4, .ref 74, .ref (50 + 6 * 1 + 0)]) (h' := (jX f g n2 p pa s sa sw rp t, z)) rfl).trans ?_
      refine (jev_grd (q := jout x4 24) (pc' := 35) (L' := ([some (.ref 71), some (.int x1), some (.int x2), some (.ref (49 + 6 * 1)), some (.int x4), some (.int u0)], [])) (S' := [.int (g 9 x4.toNatClampNeg), .ref (50 + 6 * 1 + 0)]) (h' := (jX f g n2 p pa s sa sw rp t, z)) rfl).trans (jite_congr (fun _ => rfl) (fun _ => ?_))
      refine (jev_grd (q := jout (g 9 x4.toNatClampNeg) 30) (pc' := 36) (L' := ([some (.ref 71), some (.int x1), some (.int x2), some (.ref (49 + 6 * 1)), some (.int x4), some (.int u0)], [])) (S' := [.int (sa 1 0 (g 9 x4.toNatClampNeg).toNatClampNeg)]) (h' := (jX f g n2 p pa s sa sw rp t, z)) rfl).trans (jite_congr (fun _ => rfl) (fun _ => ?_))
      refine (jev_blk 3 (pc' := 39) (L' := ([some (.ref 71), some (.int x1), some (.int x2), some (.ref (49 + 6 * 1)), some (.int x4), some (.int u0)], [])) (S' := [.int x4, .ref 75, .int (sa 1 0 (g 9 x4.toNatClampNeg).toNatClampNeg)]) (h' := (jX f g n2 p pa s sa sw rp t, z)) rfl).trans ?_
      refine (jev_grd (q := jout x4 24) (pc' := 40) (L' := ([some (.ref 71), some (.int x1), some (.int x2), some (.ref (49 + 6 * 1)), some (.int x4), some (.int u0)], [])) (S' := [.int (g 10 x4.toNatClampNeg), .int (sa 1 0 (g 9 x4.toNatClampNeg).toNatClampNeg)]) (h' := (jX f g n2 p pa s sa sw rp t, z)) rfl).trans (jite_congr (fun _ => rfl) (fun _ => ?_))
      refine (jev_blk 1 (pc' := if (sa 1 0 (g 9 x4.toNatClampNeg).toNatClampNeg) < (g 10 x4.toNatClampNeg) then 43 else 41) (L' := ([some (.ref 71), some (.int x1), some (.int x2), some (.ref (49 + 6 * 1)), some (.int x4), some (.int u0)], [])) (S' := []) (h' := (jX f g n2 p pa s sa sw rp t, z)) rfl).trans (jev_ite.trans (jite_congr (fun _ => ?_) (fun _ => ?_)))
      · exact jev_blk 1 rfl
      · exact jev_blk 2 rfl
  · refine (jev_blk 3 (pc' := if u0 = 0 then 56 else 29) (L' := ([some (.ref 71), some (.int x1), some (.int x2), some (.ref (49 + 6 * 2)), some (.int x4), some (.int u0)], [])) (S' := []) (h' := (jX f g n2 p pa s sa sw rp t, z)) rfl).trans (jev_ite.trans (jite_congr (fun _ => ?_) (fun _ => ?_)))
    · rfl
    · refine (jev_blk 5 (pc' := 34) (L' := ([some (.ref 71), some (.int x1), some (.int x2), some (.ref (49 + 6 * 2)), some (.int x4), some (.int u0)], [])) (S' := [.int x4, .ref 74, .ref (50 + 6 * 2 + 0)]) (h' := (jX f g n2 p pa s sa sw rp t, z)) rfl).trans ?_
      refine (jev_grd (q := jout x4 24) (pc' := 35) (L' := ([some (.ref 71), some (.int x1), some (.int x2), some (.ref (49 + 6 * 2)), some (.int x4), some (.int u0)], [])) (S' := [.int (g 9 x4.toNatClampNeg), .ref (50 + 6 * 2 + 0)]) (h' := (jX f g n2 p pa s sa sw rp t, z)) rfl).trans (jite_congr (fun _ => rfl) (fun _ => ?_))
      refine (jev_grd (q := jout (g 9 x4.toNatClampNeg) 30) (pc' := 36) (L' := ([some (.ref 71), some (.int x1), some (.int x2), some (.ref (49 + 6 * 2)), some (.int x4), some (.int u0)], [])) (S' := [.int (sa 2 0 (g 9 x4.toNatClampNeg).toNatClampNeg)]) (h' := (jX f g n2 p pa s sa sw rp t, z)) rfl).trans (jite_congr (fun _ => rfl) (fun _ => ?_))
      refine (jev_blk 3 (pc' := 39) (L' := ([some (.ref 71), some (.int x1), some (.int x2), some (.ref (49 + 6 * 2)), some (.int x4), some (.int u0)], [])) (S' := [.int x4, .ref 75, .int (sa 2 0 (g 9 x4.toNatClampNeg).toNatClampNeg)]) (h' := (jX f g n2 p pa s sa sw rp t, z)) rfl).trans ?_
      refine (jev_grd (q := jout x4 24) (pc' := 40) (L' := ([some (.ref 71), some (.int x1), some (.int x2), some (.ref (49 + 6 * 2)), some (.int x4), some (.int u0)], [])) (S' := [.int (g 10 x4.toNatClampNeg), .int (sa 2 0 (g 9 x4.toNatClampNeg).toNatClampNeg)]) (h' := (jX f g n2 p pa s sa sw rp t, z)) rfl).trans (jite_congr (fun _ => rfl) (fun _ => ?_))
      refine (jev_blk 1 (pc' := if (sa 2 0 (g 9 x4.toNatClampNeg).toNatClampNeg) < (g 10 x4.toNatClampNeg) then 43 else 41) (L' := ([some (.ref 71), some (.int x1), some (.int x2), some (.ref (49 + 6 * 2)), some (.int x4), some (.int u0)], [])) (S' := []) (h' := (jX f g n2 p pa s sa sw rp t, z)) rfl).trans (jev_ite.trans (jite_congr (fun _ => ?_) (fun _ => ?_)))
      · exact jev_blk 1 rfl
      · exact jev_blk 2 rfl
set_option maxRecDepth 20000 in
theorem E_n_agree_56 {D : Nat} {j : Nat} {x1 : Int32} {x2 : Int32} {x4 : Int32} {d5 : Option Value} {f : Nat → Int32} {g : Nat → Nat → Int32} {n2 : Nat → Nat → Int64} {p : Nat → Nat → Int32} {pa : Nat → Nat → Nat → Int32} {s : Nat → Nat → Int32} {sa : Nat → Nat → Nat → Int32} {sw : Bool} {rp : Value} {t : List jE} {z : Nat × Nat × Nat × (Nat → Int32)} (hj : j < 3) : K_n_agree_56 D j x1 x2 x4 d5 f g n2 p pa s sa sw rp t z = K_n_agree_2 D j x1 x2 (x4 + 1) d5 f g n2 p pa s sa sw rp t z := by
  rcases jlt3 hj with rfl | rfl | rfl
  · exact jev_blk 2 rfl
  · exact jev_blk 2 rfl
  · exact jev_blk 2 rfl
set_option maxRecDepth 20000 in
theorem E_n_agree_44 {D : Nat} {j : Nat} {x1 : Int32} {x2 : Int32} {x4 : Int32} {d5 : Option Value} {u0 : Int32} {f : Nat → Int32} {g : Nat → Nat → Int32} {n2 : Nat → Nat → Int64} {p : Nat → Nat → Int32} {pa : Nat → Nat → Nat → Int32} {s : Nat → Nat → Int32} {sa : Nat → Nat → Nat → Int32} {sw : Bool} {rp : Value} {t : List jE} {z : Nat × Nat × Nat × (Nat → Int32)} (hj : j < 3) : K_n_agree_44 D j x1 x2 x4 d5 u0 f g n2 p pa s sa sw rp t z = if jout x4 24 then none else (if (g 7 x4.toNatClampNeg) = 2 then (K_n_agree_53 D j x1 x2 x4 d5 1 u0 f g n2 p pa s sa sw rp t z) else (K_n_agree_53 D j x1 x2 x4 d5 0 u0 f g n2 p pa s sa sw rp t z)) := by
  rcases jlt3 hj with rfl | rfl | rfl
  · refine (jev_blk 3 (pc' := 47) (L' := ([some (.ref 71), some (.int x1), some (.int x2), some (.ref (49 + 6 * 0)), some (.int x4), d5], [])) (S' := [.int x4, .ref 72, .int u0]) (h' := (jX f g n2 p pa s sa sw rp t, z)) rfl).trans ?_
    refine (jev_grd (q := jout x4 24) (pc' := 48) (L' := ([some (.ref 71), some (.int x1), some (.int x2), some (.ref (49 + 6 * 0)), some (.int x4), d5], [])) (S' := [.int (g 7 x4.toNatClampNeg), .int u0]) (h' := (jX f g n2 p pa s sa sw rp t, z)) rfl).trans (jite_congr (fun _ => rfl) (fun _ => ?_))
    refine (jev_blk 2 (pc' := if (g 7 x4.toNatClampNeg) = 2 then 50 else 52) (L' := ([some (.ref 71), some (.int x1), some (.int x2), some (.ref (49 + 6 * 0)), some (.int x4), d5], [])) (S' := [.int u0]) (h' := (jX f g n2 p pa s sa sw rp t, z)) rfl).trans (jev_ite.trans (jite_congr (fun _ => ?_) (fun _ => ?_)))
    · exact jev_blk 2 rfl
    · exact jev_blk 1 rfl
  · refine (jev_blk 3 (pc' := 47) (L' := ([some (.ref 71), some (.int x1), some (.int x2), some (.ref (49 + 6 * 1)), some (.int x4), d5], [])) (S' := [.int x4, .ref 72, .int u0]) (h' := (jX f g n2 p pa s sa sw rp t, z)) rfl).trans ?_
    refine (jev_grd (q := jout x4 24) (pc' := 48) (L' := ([some (.ref 71), some (.int x1), some (.int x2), some (.ref (49 + 6 * 1)), some (.int x4), d5], [])) (S' := [.int (g 7 x4.toNatClampNeg), .int u0]) (h' := (jX f g n2 p pa s sa sw rp t, z)) rfl).trans (jite_congr (fun _ => rfl) (fun _ => ?_))
    refine (jev_blk 2 (pc' := if (g 7 x4.toNatClampNeg) = 2 then 50 else 52) (L' := ([some (.ref 71), some (.int x1), some (.int x2), some (.ref (49 + 6 * 1)), some (.int x4), d5], [])) (S' := [.int u0]) (h' := (jX f g n2 p pa s sa sw rp t, z)) rfl).trans (jev_ite.trans (jite_congr (fun _ => ?_) (fun _ => ?_)))
    · exact jev_blk 2 rfl
    · exact jev_blk 1 rfl
  · refine (jev_blk 3 (pc' := 47) (L' := ([some (.ref 71), some (.int x1), some (.int x2), some (.ref (49 + 6 * 2)), some (.int x4), d5], [])) (S' := [.int x4, .ref 72, .int u0]) (h' := (jX f g n2 p pa s sa sw rp t, z)) rfl).trans ?_
    refine (jev_grd (q := jout x4 24) (pc' := 48) (L' := ([some (.ref 71), some (.int x1), some (.int x2), some (.ref (49 + 6 * 2)), some (.int x4), d5], [])) (S' := [.int (g 7 x4.toNatClampNeg), .int u0]) (h' := (jX f g n2 p pa s sa sw rp t, z)) rfl).trans (jite_congr (fun _ => rfl) (fun _ => ?_))
    refine (jev_blk 2 (pc' := if (g 7 x4.toNatClampNeg) = 2 then 50 else 52) (L' := ([some (.ref 71), some (.int x1), some (.int x2), some (.ref (49 + 6 * 2)), some (.int x4), d5], [])) (S' := [.int u0]) (h' := (jX f g n2 p pa s sa sw rp t, z)) rfl).trans (jev_ite.trans (jite_congr (fun _ => ?_) (fun _ => ?_)))
    · exact jev_blk 2 rfl
    · exact jev_blk 1 rfl
