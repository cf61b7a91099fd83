-- EQUATIONS: one a block; E_ unfolds, L_ a loop's head
set_option maxRecDepth 20000 in
theorem E_h_seenBy_5 {D : Nat} {j : Nat} {x2 : Int32} {d3 : Option Value} {d4 : Option Value} {d5 : Option Value} {d6 : Option Value} {d7 : Option Value} {d8 : Option Value} {u0 : Int32} {f : Nat → Int32} {g : Nat → Nat → Int32} {n2 : Nat → Nat → Int64} {p : Nat → Nat → Int32} {pa : Nat → Nat → Nat → Int32} {s : Nat → Nat → Int32} {sa : Nat → Nat → Nat → Int32} {sw : Bool} {rp : Value} {t : List jE} {z : Nat × Nat × Nat × (Nat → Int32)} (hj : j < 3) : jev D 7 5 ([some (.ref 43), some (.ref (49 + 6 * j)), some (.int x2), d3, d4, d5, d6, d7, d8], []) [.int u0, .ref (49 + 6 * j), .ref 43] (jX f g n2 p pa s sa sw rp t, z) = if jout x2 6 then none else (jbO (K_h_stand D j u0 (sa j 3 x2.toNatClampNeg) f g n2 p pa s sa sw rp t z) (jk D 7 10 ([some (.ref 43), some (.ref (49 + 6 * j)), some (.int x2), d3, d4, d5, d6, d7, d8], []) [])) := by
  rcases jlt3 hj with rfl | rfl | rfl <;> cases sw
  · refine (jev_blk 3 (pc' := 8) (L' := ([some (.ref 43), some (.ref (49 + 6 * 0)), some (.int x2), d3, d4, d5, d6, d7, d8], [])) (S' := [.int x2, .ref (50 + 6 * 0 + 3), .int u0, .ref (49 + 6 * 0), .ref 43]) (h' := (jX f g n2 p pa s sa false rp t, z)) rfl).trans ?_
    refine (jev_grd (q := jout x2 6) (pc' := 9) (L' := ([some (.ref 43), some (.ref (49 + 6 * 0)), some (.int x2), d3, d4, d5, d6, d7, d8], [])) (S' := [.int (sa 0 3 x2.toNatClampNeg), .int u0, .ref (49 + 6 * 0), .ref 43]) (h' := (jX f g n2 p pa s sa false rp t, z)) rfl).trans (jite_congr (fun _ => rfl) (fun _ => ?_))
    exact jev_callb (nx := 10) (rest := []) rfl
  · refine (jev_blk 3 (pc' := 8) (L' := ([some (.ref 43), some (.ref (49 + 6 * 0)), some (.int x2), d3, d4, d5, d6, d7, d8], [])) (S' := [.int x2, .ref (50 + 6 * 0 + 3), .int u0, .ref (49 + 6 * 0), .ref 43]) (h' := (jX f g n2 p pa s sa true rp t, z)) rfl).trans ?_
    refine (jev_grd (q := jout x2 6) (pc' := 9) (L' := ([some (.ref 43), some (.ref (49 + 6 * 0)), some (.int x2), d3, d4, d5, d6, d7, d8], [])) (S' := [.int (sa 0 3 x2.toNatClampNeg), .int u0, .ref (49 + 6 * 0), .ref 43]) (h' := (jX f g n2 p pa s sa true rp t, z)) rfl).trans (jite_congr (fun _ => rfl) (fun _ => ?_))
    exact jev_callb (nx := 10) (rest := []) rfl
  · refine (jev_blk 3 (pc' := 8) (L' := ([some (.ref 43), some (.ref (49 + 6 * 1)), some (.int x2), d3, d4, d5, d6, d7, d8], [])) (S' := [.int x2, .ref (50 + 6 * 1 + 3), .int u0, .ref (49 + 6 * 1), .ref 43]) (h' := (jX f g n2 p pa s sa false rp t, z)) rfl).trans ?_
    refine (jev_grd (q := jout x2 6) (pc' := 9) (L' := ([some (.ref 43), some (.ref (49 + 6 * 1)), some (.int x2), d3, d4, d5, d6, d7, d8], [])) (S' := [.int (sa 1 3 x2.toNatClampNeg), .int u0, .ref (49 + 6 * 1), .ref 43]) (h' := (jX f g n2 p pa s sa false rp t, z)) rfl).trans (jite_congr (fun _ => rfl) (fun _ => ?_))
    exact jev_callb (nx := 10) (rest := []) rfl
  · refine (jev_blk 3 (pc' := 8) (L' := ([some (.ref 43), some (.ref (49 + 6 * 1)), some (.int x2), d3, d4, d5, d6, d7, d8], [])) (S' := [.int x2, .ref (50 + 6 * 1 + 3), .int u0, .ref (49 + 6 * 1), .ref 43]) (h' := (jX f g n2 p pa s sa true rp t, z)) rfl).trans ?_
    refine (jev_grd (q := jout x2 6) (pc' := 9) (L' := ([some (.ref 43), some (.ref (49 + 6 * 1)), some (.int x2), d3, d4, d5, d6, d7, d8], [])) (S' := [.int (sa 1 3 x2.toNatClampNeg), .int u0, .ref (49 + 6 * 1), .ref 43]) (h' := (jX f g n2 p pa s sa true rp t, z)) rfl).trans (jite_congr (fun _ => rfl) (fun _ => ?_))
    exact jev_callb (nx := 10) (rest := []) rfl
  · refine (jev_blk 3 (pc' := 8) (L' := ([some (.ref 43), some (.ref (49 + 6 * 2)), some (.int x2), d3, d4, d5, d6, d7, d8], [])) (S' := [.int x2, .ref (50 + 6 * 2 + 3), .int u0, .ref (49 + 6 * 2), .ref 43]) (h' := (jX f g n2 p pa s sa false rp t, z)) rfl).trans ?_
    refine (jev_grd (q := jout x2 6) (pc' := 9) (L' := ([some (.ref 43), some (.ref (49 + 6 * 2)), some (.int x2), d3, d4, d5, d6, d7, d8], [])) (S' := [.int (sa 2 3 x2.toNatClampNeg), .int u0, .ref (49 + 6 * 2), .ref 43]) (h' := (jX f g n2 p pa s sa false rp t, z)) rfl).trans (jite_congr (fun _ => rfl) (fun _ => ?_))
    exact jev_callb (nx := 10) (rest := []) rfl
  · refine (jev_blk 3 (pc' := 8) (L' := ([some (.ref 43), some (.ref (49 + 6 * 2)), some (.int x2), d3, d4, d5, d6, d7, d8], [])) (S' := [.int x2, .ref (50 + 6 * 2 + 3), .int u0, .ref (49 + 6 * 2), .ref 43]) (h' := (jX f g n2 p pa s sa true rp t, z)) rfl).trans ?_
    refine (jev_grd (q := jout x2 6) (pc' := 9) (L' := ([some (.ref 43), some (.ref (49 + 6 * 2)), some (.int x2), d3, d4, d5, d6, d7, d8], [])) (S' := [.int (sa 2 3 x2.toNatClampNeg), .int u0, .ref (49 + 6 * 2), .ref 43]) (h' := (jX f g n2 p pa s sa true rp t, z)) rfl).trans (jite_congr (fun _ => rfl) (fun _ => ?_))
    exact jev_callb (nx := 10) (rest := []) rfl
set_option maxRecDepth 20000 in
theorem E_h_seenBy_10 {D : Nat} {j : Nat} {x2 : Int32} {d3 : Option Value} {d4 : Option Value} {d5 : Option Value} {d6 : Option Value} {d7 : Option Value} {d8 : Option Value} {f : Nat → Int32} {g : Nat → Nat → Int32} {n2 : Nat → Nat → Int64} {p : Nat → Nat → Int32} {pa : Nat → Nat → Nat → Int32} {s : Nat → Nat → Int32} {sa : Nat → Nat → Nat → Int32} {sw : Bool} {rp : Value} {t : List jE} {z : Nat × Nat × Nat × (Nat → Int32)} (hj : j < 3) : jev D 7 10 ([some (.ref 43), some (.ref (49 + 6 * j)), some (.int x2), d3, d4, d5, d6, d7, d8], []) [] (jX f g n2 p pa s sa sw rp t, z) = if (f 15) < 0 then (K_h_seenBy_23 D j x2 d3 d4 d5 d6 d7 d8 (-1) f g n2 p pa s sa sw rp t z) else (K_h_seenBy_23 D j x2 d3 d4 d5 d6 d7 d8 ((((f 15) * 6) + x2) * 30) f g n2 p pa s sa sw rp t z) := by
  rcases jlt3 hj with rfl | rfl | rfl <;> cases sw
  · refine (jev_blk 3 (pc' := if (f 15) < 0 then 13 else 15) (L' := ([some (.ref 43), some (.ref (49 + 6 * 0)), some (.int x2), d3, d4, d5, d6, d7, d8], [])) (S' := []) (h' := (jX f g n2 p pa s sa false rp t, z)) rfl).trans (jev_ite.trans (jite_congr (fun _ => ?_) (fun _ => ?_)))
    · exact jev_blk 2 rfl
    · exact jev_blk 8 rfl
  · refine (jev_blk 3 (pc' := if (f 15) < 0 then 13 else 15) (L' := ([some (.ref 43), some (.ref (49 + 6 * 0)), some (.int x2), d3, d4, d5, d6, d7, d8], [])) (S' := []) (h' := (jX f g n2 p pa s sa true rp t, z)) rfl).trans (jev_ite.trans (jite_congr (fun _ => ?_) (fun _ => ?_)))
    · exact jev_blk 2 rfl
    · exact jev_blk 8 rfl
  · refine (jev_blk 3 (pc' := if (f 15) < 0 then 13 else 15) (L' := ([some (.ref 43), some (.ref (49 + 6 * 1)), some (.int x2), d3, d4, d5, d6, d7, d8], [])) (S' := []) (h' := (jX f g n2 p pa s sa false rp t, z)) rfl).trans (jev_ite.trans (jite_congr (fun _ => ?_) (fun _ => ?_)))
    · exact jev_blk 2 rfl
    · exact jev_blk 8 rfl
  · refine (jev_blk 3 (pc' := if (f 15) < 0 then 13 else 15) (L' := ([some (.ref 43), some (.ref (49 + 6 * 1)), some (.int x2), d3, d4, d5, d6, d7, d8], [])) (S' := []) (h' := (jX f g n2 p pa s sa true rp t, z)) rfl).trans (jev_ite.trans (jite_congr (fun _ => ?_) (fun _ => ?_)))
    · exact jev_blk 2 rfl
    · exact jev_blk 8 rfl
  · refine (jev_blk 3 (pc' := if (f 15) < 0 then 13 else 15) (L' := ([some (.ref 43), some (.ref (49 + 6 * 2)), some (.int x2), d3, d4, d5, d6, d7, d8], [])) (S' := []) (h' := (jX f g n2 p pa s sa false rp t, z)) rfl).trans (jev_ite.trans (jite_congr (fun _ => ?_) (fun _ => ?_)))
    · exact jev_blk 2 rfl
    · exact jev_blk 8 rfl
  · refine (jev_blk 3 (pc' := if (f 15) < 0 then 13 else 15) (L' := ([some (.ref 43), some (.ref (49 + 6 * 2)), some (.int x2), d3, d4, d5, d6, d7, d8], [])) (S' := []) (h' := (jX f g n2 p pa s sa true rp t, z)) rfl).trans (jev_ite.trans (jite_congr (fun _ => ?_) (fun _ => ?_)))
    · exact jev_blk 2 rfl
    · exact jev_blk 8 rfl
set_option maxRecDepth 20000 in
theorem E_h_seenBy_23 {D : Nat} {j : Nat} {x2 : Int32} {d3 : Option Value} {d4 : Option Value} {d5 : Option Value} {d6 : Option Value} {d7 : Option Value} {d8 : Option Value} {u0 : Int32} {f : Nat → Int32} {g : Nat → Nat → Int32} {n2 : Nat → Nat → Int64} {p : Nat → Nat → Int32} {pa : Nat → Nat → Nat → Int32} {s : Nat → Nat → Int32} {sa : Nat → Nat → Nat → Int32} {sw : Bool} {rp : Value} {t : List jE} {z : Nat × Nat × Nat × (Nat → Int32)} (hj : j < 3) : K_h_seenBy_23 D j x2 d3 d4 d5 d6 d7 d8 u0 f g n2 p pa s sa sw rp t z = K_h_seenBy_28 D j x2 u0 0 0 d6 d7 d8 f g n2 p pa s sa sw rp t z := by
  rcases jlt3 hj with rfl | rfl | rfl <;> cases sw
  · exact jev_blk 5 rfl
  · exact jev_blk 5 rfl
  · exact jev_blk 5 rfl
  · exact jev_blk 5 rfl
  · exact jev_blk 5 rfl
  · exact jev_blk 5 rfl
set_option maxRecDepth 20000 in
theorem L_h_seenBy_28 {D : Nat} {j : Nat} {x2 : Int32} {x3 : Int32} {x4 : Int32} {x5 : Int32} {d6 : Option Value} {d7 : Option Value} {d8 : Option Value} {f : Nat → Int32} {g : Nat → Nat → Int32} {n2 : Nat → Nat → Int64} {p : Nat → Nat → Int32} {pa : Nat → Nat → Nat → Int32} {s : Nat → Nat → Int32} {sa : Nat → Nat → Nat → Int32} {sw : Bool} {rp : Value} {t : List jE} {z : Nat × Nat × Nat × (Nat → Int32)} (hj : j < 3) : K_h_seenBy_28 D j x2 x3 x4 x5 d6 d7 d8 f g n2 p pa s sa sw rp t z = jbO (K_p_cells D sw f g n2 p pa s sa sw rp t z) (jk D 7 32 ([some (.ref 43), some (.ref (49 + 6 * j)), some (.int x2), some (.int x3), some (.int x4), some (.int x5), d6, d7, d8], []) [.int x5]) := by
  rcases jlt3 hj with rfl | rfl | rfl <;> cases sw
  · refine (jev_blk 3 (pc' := 31) (L' := ([some (.ref 43), some (.ref (49 + 6 * 0)), some (.int x2), some (.int x3), some (.int x4), some (.int x5), d6, d7, d8], [])) (S' := [.ref (jpl false), .int x5]) (h' := (jX f g n2 p pa s sa false rp t, z)) rfl).trans ?_
    exact jev_callb (nx := 32) (rest := [.int x5]) rfl
  · refine (jev_blk 3 (pc' := 31) (L' := ([some (.ref 43), some (.ref (49 + 6 * 0)), some (.int x2), some (.int x3), some (.int x4), some (.int x5), d6, d7, d8], [])) (S' := [.ref (jpl true), .int x5]) (h' := (jX f g n2 p pa s sa true rp t, z)) rfl).trans ?_
    exact jev_callb (nx := 32) (rest := [.int x5]) rfl
  · refine (jev_blk 3 (pc' := 31) (L' := ([some (.ref 43), some (.ref (49 + 6 * 1)), some (.int x2), some (.int x3), some (.int x4), some (.int x5), d6, d7, d8], [])) (S' := [.ref (jpl false), .int x5]) (h' := (jX f g n2 p pa s sa false rp t, z)) rfl).trans ?_
    exact jev_callb (nx := 32) (rest := [.int x5]) rfl
  · refine (jev_blk 3 (pc' := 31) (L' := ([some (.ref 43), some (.ref (49 + 6 * 1)), some (.int x2), some (.int x3), some (.int x4), some (.int x5), d6, d7, d8], [])) (S' := [.ref (jpl true), .int x5]) (h' := (jX f g n2 p pa s sa true rp t, z)) rfl).trans ?_
    exact jev_callb (nx := 32) (rest := [.int x5]) rfl
  · refine (jev_blk 3 (pc' := 31) (L' := ([some (.ref 43), some (.ref (49 + 6 * 2)), some (.int x2), some (.int x3), some (.int x4), some (.int x5), d6, d7, d8], [])) (S' := [.ref (jpl false), .int x5]) (h' := (jX f g n2 p pa s sa false rp t, z)) rfl).trans ?_
    exact jev_callb (nx := 32) (rest := [.int x5]) rfl
  · refine (jev_blk 3 (pc' := 31) (L' := ([some (.ref 43), some (.ref (49 + 6 * 2)), some (.int x2), some (.int x3), some (.int x4), some (.int x5), d6, d7, d8], [])) (S' := [.ref (jpl true), .int x5]) (h' := (jX f g n2 p pa s sa true rp t, z)) rfl).trans ?_
    exact jev_callb (nx := 32) (rest := [.int x5]) rfl
set_option maxRecDepth 20000 in
theorem E_h_seenBy_32 {D : Nat} {j : Nat} {x2 : Int32} {x3 : Int32} {x4 : Int32} {x5 : Int32} {d6 : Option Value} {d7 : Option Value} {d8 : Option Value} {u0 : Int32} {u1 : Int32} {f : Nat → Int32} {g : Nat → Nat → Int32} {n2 : Nat → Nat → Int64} {p : Nat → Nat → Int32} {pa : Nat → Nat → Nat → Int32} {s : Nat → Nat → Int32} {sa : Nat → Nat → Nat → Int32} {sw : Bool} {rp : Value} {t : List jE} {z : Nat × Nat × Nat × (Nat → Int32)} (hj : j < 3) : jev D 7 32 ([some (.ref 43), some (.ref (49 + 6 * j)), some (.int x2), some (.int x3), some (.int x4), some (.int x5), d6, d7, d8], []) [.int u0, .int u1] (jX f g n2 p pa s sa sw rp t, z) = if u1 < u0 then (if jout x5 30 then none else (if x3 < 0 then (K_h_seenBy_47 D j x2 x3 x4 x5 (sa j 0 x5.toNatClampNeg) d7 d8 f g n2 p pa s sa sw rp t z) else (if (x3 + x5) < 6480 then (K_h_seenBy_48 D j x2 x3 x4 x5 (sa j 0 x5.toNatClampNeg) d7 d8 1 f g n2 p pa s sa sw rp t z) else (K_h_seenBy_47 D j x2 x3 x4 x5 (sa j 0 x5.toNatClampNeg) d7 d8 f g n2 p pa s sa sw rp t z)))) else (some (.inl (some (.int x4)), (jX f g n2 p pa s sa sw rp t, z))) := by
  rcases jlt3 hj with rfl | rfl | rfl <;> cases sw
  · refine (jev_blk 1 (pc' := if u1 < u0 then 33 else 112) (L' := ([some (.ref 43), some (.ref (49 + 6 * 0)), some (.int x2), some (.int x3), some (.int x4), some (.int x5), d6, d7, d8], [])) (S' := []) (h' := (jX f g n2 p pa s sa false rp t, z)) rfl).trans (jev_ite.trans (jite_congr (fun _ => ?_) (fun _ => ?_)))
    · refine (jev_blk 3 (pc' := 36) (L' := ([some (.ref 43), some (.ref (49 + 6 * 0)), some (.int x2), some (.int x3), some (.int x4), some (.int x5), d6, d7, d8], [])) (S' := [.int x5, .ref (50 + 6 * 0 + 0)]) (h' := (jX f g n2 p pa s sa false rp t, z)) rfl).trans ?_
      refine (jev_grd (q := jout x5 30) (pc' := 37) (L' := ([some (.ref 43), some (.ref (49 + 6 * 0)), some (.int x2), some (.int x3), some (.int x4), some (.int x5), d6, d7, d8], [])) (S' := [.int (sa 0 0 x5.toNatClampNeg)]) (h' := (jX f g n2 p pa s sa false rp t, z)) rfl).trans (jite_congr (fun _ => rfl) (fun _ => ?_))
      refine (jev_blk 3 (pc' := if x3 < 0 then 47 else 40) (L' := ([some (.ref 43), some (.ref (49 + 6 * 0)), some (.int x2), some (.int x3), some (.int x4), some (.int x5), some (.int (sa 0 0 x5.toNatClampNeg)), d7, d8], [])) (S' := []) (h' := (jX f g n2 p pa s sa false rp t, z)) rfl).trans (jev_ite.trans (jite_congr (fun _ => ?_) (fun _ => ?_)))
      · rfl
      · refine (jev_blk 5 (pc' := if (x3 + x5) < 6480 then 45 else 47) (L' := ([some (.ref 43), some (.ref (49 + 6 * 0)), some (.int x2), some (.int x3), some (.int x4), some (.int x5), some (.int (sa 0 0 x5.toNatClampNeg)), d7, d8], [])) (S' := []) (h' := (jX f g n2 p pa s sa false rp t, z)) rfl).trans (jev_ite.trans (jite_congr (fun _ => ?_) (fun _ => ?_)))
        · exact jev_blk 2 rfl
        · rfl
    · refine (jev_blk 1 (pc' := 113) (L' := ([some (.ref 43), some (.ref (49 + 6 * 0)), some (.int x2), some (.int x3), some (.int x4), some (.int x5), d6, d7, d8], [])) (S' := [.int x4]) (h' := (jX f g n2 p pa s sa false rp t, z)) rfl).trans ?_
      exact jev_fin rfl
  · refine (jev_blk 1 (pc' := if u1 < u0 then 33 else 112) (L' := ([some (.ref 43), some (.ref (49 + 6 * 0)), some (.int x2), some (.int x3), some (.int x4), some (.int x5), d6, d7, d8], [])) (S' := []) (h' := (jX f g n2 p pa s sa true rp t, z)) rfl).trans (jev_ite.trans (jite_congr (fun _ => ?_) (fun _ => ?_)))
    · refine (jev_blk 3 (pc' := 36) (L' := ([some (.ref 43), some (.ref (49 + 6 * 0)), some (.int x2), some (.int x3), some (.int x4), some (.int x5), d6, d7, d8], [])) (S' := [.int x5, .ref (50 + 6 * 0 + 0)]) (h' := (jX f g n2 p pa s sa true rp t, z)) rfl).trans ?_
      refine (jev_grd (q := jout x5 30) (pc' := 37) (L' := ([some (.ref 43), some (.ref (49 + 6 * 0)), some (.int x2), some (.int x3), some (.int x4), some (.int x5), d6, d7, d8], [])) (S' := [.int (sa 0 0 x5.toNatClampNeg)]) (h' := (jX f g n2 p pa s sa true rp t, z)) rfl).trans (jite_congr (fun _ => rfl) (fun _ => ?_))
      refine (jev_blk 3 (pc' := if x3 < 0 then 47 else 40) (L' := ([some (.ref 43), some (.ref (49 + 6 * 0)), some (.int x2), some (.int x3), some (.int x4), some (.int x5), some (.int (sa 0 0 x5.toNatClampNeg)), d7, d8], [])) (S' := []) (h' := (jX f g n2 p pa s sa true rp t, z)) rfl).trans (jev_ite.trans (jite_congr (fun _ => ?_) (fun _ => ?_)))
      · rfl
      · refine (jev_blk 5 (pc' := if (x3 + x5) < 6480 then 45 else 47) (L' := ([some (.ref 43), some (.ref (49 + 6 * 0)), some (.int x2), some (.int x3), some (.int x4), some (.int x5), some (.int (sa 0 0 x5.toNatClampNeg)), d7, d8], [])) (S' := []) (h' := (jX f g n2 p pa s sa true rp t, z)) rfl).trans (jev_ite.trans (jite_congr (fun _ => ?_) (fun _ => ?_)))
        · exact jev_blk 2 rfl
        · rfl
    · refine (jev_blk 1 (pc' := 113) (L' := ([some (.ref 43), some (.ref (49 + 6 * 0)), some (.int x2), some (.int x3), some (.int x4), some (.int x5), d6, d7, d8], [])) (S' := [.int x4]) (h' := (jX f g n2 p pa s sa true rp t, z)) rfl).trans ?_
      exact jev_fin rfl
  · refine (jev_blk 1 (pc' := if u1 < u0 then 33 else 112) (L' := ([some (.ref 43), some (.ref (49 + 6 * 1)), some (.int x2), some (.int x3), some (.int x4), some (.int x5), d6, d7, d8], [])) (S' := []) (h' := (jX f g n2 p pa s sa false rp t, z)) rfl).trans (jev_ite.trans (jite_congr (fun _ => ?_) (fun _ => ?_)))
    · refine (jev_blk 3 (pc' := 36) (L' := ([some (.ref 43), some (.ref (49 + 6 * 1)), some (.int x2), some (.int x3), some (.int x4), some (.int x5), d6, d7, d8], [])) (S' := [.int x5, .ref (50 + 6 * 1 + 0)]) (h' := (jX f g n2 p pa s sa false rp t, z)) rfl).trans ?_
      refine (jev_grd (q := jout x5 30) (pc' := 37) (L' := ([some (.ref 43), some (.ref (49 + 6 * 1)), some (.int x2), some (.int x3), some (.int x4), some (.int x5), d6, d7, d8], [])) (S' := [.int (sa 1 0 x5.toNatClampNeg)]) (h' := (jX f g n2 p pa s sa false rp t, z)) rfl).trans (jite_congr (fun _ => rfl) (fun _ => ?_))
      refine (jev_blk 3 (pc' := if x3 < 0 then 47 else 40) (L' := ([some (.ref 43), some (.ref (49 + 6 * 1)), some (.int x2), some (.int x3), some (.int x4), some (.int x5), some (.int (sa 1 0 x5.toNatClampNeg)), d7, d8], [])) (S' := []) (h' := (jX f g n2 p pa s sa false rp t, z)) rfl).trans (jev_ite.trans (jite_congr (fun _ => ?_) (fun _ => ?_)))
      · rfl
      · refine (jev_blk 5 (pc' := if (x3 + x5) < 6480 then 45 else 47) (L' := ([some (.ref 43), some (.ref (49 + 6 * 1)), some (.int x2), some (.int x3), some (.int x4), some (.int x5), some (.int (sa 1 0 x5.toNatClampNeg)), d7, d8], [])) (S' := []) (h' := (jX f g n2 p pa s sa false rp t, z)) rfl).trans (jev_ite.trans (jite_congr (fun _ => ?_) (fun _ => ?_)))
        · exact jev_blk 2 rfl
        · rfl
    · refine (jev_blk 1 (pc' := 113) (L' := ([some (.ref 43), some (.ref (49 + 6 * 1)), some (.int x2), some (.int x3), some (.int x4), some (.int x5), d6, d7, d8], [])) (S' := [.int x4]) (h' := (jX f g n2 p pa s sa false rp t, z)) rfl).trans ?_
      exact jev_fin rfl
  · refine (jev_blk 1 (pc' := if u1 < u0 then 33 else 112) (L' := ([some (.ref 43), some (.ref (49 + 6 * 1)), some (.int x2), some (.int x3), some (.int x4), some (.int x5), d6, d7, d8], [])) (S' := []) (h' := (jX f g n2 p pa s sa true rp t, z)) rfl).trans (jev_ite.trans (jite_congr (fun _ => ?_) (fun _ => ?_)))
    · refine (jev_blk 3 (pc' := 36) (L' := ([some (.ref 43), some (.ref (49 + 6 * 1)), some (.int x2), some (.int x3), some (.int x4), some (.int x5), d6, d7, d8], [])) (S' := [.int x5, .ref (50 + 6 * 1 + 0)]) (h' := (jX f g n2 p pa s sa true rp t, z)) rfl).trans ?_
      refine (jev_grd (q := jout x5 30) (pc' := 37) (L' := ([some (.ref 43), some (.ref (49 + 6 * 1)), some (.int x2), some (.int x3), some (.int x4), some (.int x5), d6, d7, d8], [])) (S' := [.int (sa 1 0 x5.toNatClampNeg)]) (h' := (jX f g n2 p pa s sa true rp t, z)) rfl).trans (jite_congr (fun _ => rfl) (fun _ => ?_))
      refine (jev_blk 3 (pc' := if x3 < 0 then 47 else 40) (L' := ([some (.ref 43), some (.ref (49 + 6 * 1)), some (.int x2), some (.int x3), some (.int x4), some (.int x5), some (.int (sa 1 0 x5.toNatClampNeg)), d7, d8], [])) (S' := []) (h' := (jX f g n2 p pa s sa true rp t, z)) rfl).trans (jev_ite.trans (jite_congr (fun _ => ?_) (fun _ => ?_)))
      · rfl
      · refine (jev_blk 5 (pc' := if (x3 + x5) < 6480 then 45 else 47) (L' := ([some (.ref 43), some (.ref (49 + 6 * 1)), some (.int x2), some (.int x3), some (.int x4), some (.int x5), some (.int (sa 1 0 x5.toNatClampNeg)), d7, d8], [])) (S' := []) (h' := (jX f g n2 p pa s sa true rp t, z)) rfl).trans (jev_ite.trans (jite_congr (fun _ => ?_) (fun _ => ?_)))
        · exact jev_blk 2 rfl
        · rfl
    · refine (jev_blk 1 (pc' := 113) (L' := ([some (.ref 43), some (.ref (49 + 6 * 1)), some (.int x2), some (.int x3), some (.int x4), some (.int x5), d6, d7, d8], [])) (S' := [.int x4]) (h' := (jX f g n2 p pa s sa true rp t, z)) rfl).trans ?_
      exact jev_fin rfl
  · refine (jev_blk 1 (pc' := if u1 < u0 then 33 else 112) (L' := ([some (.ref 43), some (.ref (49 + 6 * 2)), some (.int x2), some (.int x3), some (.int x4), some (.int x5), d6, d7, d8], [])) (S' := []) (h' := (jX f g n2 p pa s sa false rp t, z)) rfl).trans (jev_ite.trans (jite_congr (fun _ => ?_) (fun _ => ?_)))
    · refine (jev_blk 3 (pc' := 36) (L' := ([some (.ref 43), some (.ref (49 + 6 * 2)), some (.int x2), some (.int x3), some (.int x4), some (.int x5), d6, d7, d8], [])) (S' := [.int x5, .ref (50 + 6 * 2 + 0)]) (h' := (jX f g n2 p pa s sa false rp t, z)) rfl).trans ?_
      refine (jev_grd (q := jout x5 30) (pc' := 37) (L' := ([some (.ref 43), some (.ref (49 + 6 * 2)), some (.int x2), some (.int x3), some (.int x4), some (.int x5), d6, d7, d8], [])) (S' := [.int (sa 2 0 x5.toNatClampNeg)]) (h' := (jX f g n2 p pa s sa false rp t, z)) rfl).trans (jite_congr (fun _ => rfl) (fun _ => ?_))
      refine (jev_blk 3 (pc' := if x3 < 0 then 47 else 40) (L' := ([some (.ref 43), some (.ref (49 + 6 * 2)), some (.int x2), some (.int x3), some (.int x4), some (.int x5), some (.int (sa 2 0 x5.toNatClampNeg)), d7, d8], [])) (S' := []) (h' := (jX f g n2 p pa s sa false rp t, z)) rfl).trans (jev_ite.trans (jite_congr (fun _ => ?_) (fun _ => ?_)))
      · rfl
      · refine (jev_blk 5 (pc' := if (x3 + x5) < 6480 then 45 else 47) (L' := ([some (.ref 43), some (.ref (49 + 6 * 2)), some (.int x2), some (.int x3), some (.int x4), some (.int x5), some (.int (sa 2 0 x5.toNatClampNeg)), d7, d8], [])) (S' := []) (h' := (jX f g n2 p pa s sa false rp t, z)) rfl).trans (jev_ite.trans (jite_congr (fun _ => ?_) (fun _ => ?_)))
        · exact jev_blk 2 rfl
        · rfl
    · refine (jev_blk 1 (pc' := 113) (L' := ([some (.ref 43), some (.ref (49 + 6 * 2)), some (.int x2), some (.int x3), some (.int x4), some (.int x5), d6, d7, d8], [])) (S' := [.int x4]) (h' := (jX f g n2 p pa s sa false rp t, z)) rfl).trans ?_
      exact jev_fin rfl
  · refine (jev_blk 1 (pc' := if u1 < u0 then 33 else 112) (L' := ([some (.ref 43), some (.ref (49 + 6 * 2)), some (.int x2), some (.int x3), some (.int x4), some (.int x5), d6, d7, d8], [])) (S' := []) (h' := (jX f g n2 p pa s sa true rp t, z)) rfl).trans (jev_ite.trans (jite_congr (fun _ => ?_) (fun _ => ?_)))
    · refine (jev_blk 3 (pc' := 36) (L' := ([some (.ref 43), some (.ref (49 + 6 * 2)), some (.int x2), some (.int x3), some (.int x4), some (.int x5), d6, d7, d8], [])) (S' := [.int x5, .ref (50 + 6 * 2 + 0)]) (h' := (jX f g n2 p pa s sa true rp t, z)) rfl).trans ?_
      refine (jev_grd (q := jout x5 30) (pc' := 37) (L' := ([some (.ref 43), some (.ref (49 + 6 * 2)), some (.int x2), some (.int x3), some (.int x4), some (.int x5), d6, d7, d8], [])) (S' := [.int (sa 2 0 x5.toNatClampNeg)]) (h' := (jX f g n2 p pa s sa true rp t, z)) rfl).trans (jite_congr (fun _ => rfl) (fun _ => ?_))
      refine (jev_blk 3 (pc' := if x3 < 0 then 47 else 40) (L' := ([some (.ref 43), some (.ref (49 + 6 * 2)), some (.int x2), some (.int x3), some (.int x4), some (.int x5), some (.int (sa 2 0 x5.toNatClampNeg)), d7, d8], [])) (S' := []) (h' := (jX f g n2 p pa s sa true rp t, z)) rfl).trans (jev_ite.trans (jite_congr (fun _ => ?_) (fun _ => ?_)))
      · rfl
      · refine (jev_blk 5 (pc' := if (x3 + x5) < 6480 then 45 else 47) (L' := ([some (.ref 43), some (.ref (49 + 6 * 2)), some (.int x2), some (.int x3), some (.int x4), some (.int x5), some (.int (sa 2 0 x5.toNatClampNeg)), d7, d8], [])) (S' := []) (h' := (jX f g n2 p pa s sa true rp t, z)) rfl).trans (jev_ite.trans (jite_congr (fun _ => ?_) (fun _ => ?_)))
        · exact jev_blk 2 rfl
        · rfl
    · refine (jev_blk 1 (pc' := 113) (L' := ([some (.ref 43), some (.ref (49 + 6 * 2)), some (.int x2), some (.int x3), some (.int x4), some (.int x5), d6, d7, d8], [])) (S' := [.int x4]) (h' := (jX f g n2 p pa s sa true rp t, z)) rfl).trans ?_
      exact jev_fin rfl
set_option maxRecDepth 20000 in
theorem E_h_seenBy_47 {D : Nat} {j : Nat} {x2 : Int32} {x3 : Int32} {x4 : Int32} {x5 : Int32} {x6 : Int32} {d7 : Option Value} {d8 : Option Value} {f : Nat → Int32} {g : Nat → Nat → Int32} {n2 : Nat → Nat → Int64} {p : Nat → Nat → Int32} {pa : Nat → Nat → Nat → Int32} {s : Nat → Nat → Int32} {sa : Nat → Nat → Nat → Int32} {sw : Bool} {rp : Value} {t : List jE} {z : Nat × Nat × Nat × (Nat → Int32)} (hj : j < 3) : K_h_seenBy_47 D j x2 x3 x4 x5 x6 d7 d8 f g n2 p pa s sa sw rp t z = K_h_seenBy_48 D j x2 x3 x4 x5 x6 d7 d8 0 f g n2 p pa s sa sw rp t z := by
  rcases jlt3 hj with rfl | rfl | rfl <;> cases sw
  · exact jev_blk 1 rfl
  · exact jev_blk 1 rfl
  · exact jev_blk 1 rfl
  · exact jev_blk 1 rfl
  · exact jev_blk 1 rfl
  · exact jev_blk 1 rfl
set_option maxRecDepth 20000 in
theorem E_h_seenBy_48 {D : Nat} {j : Nat} {x2 : Int32} {x3 : Int32} {x4 : Int32} {x5 : Int32} {x6 : Int32} {d7 : Option Value} {d8 : Option Value} {u0 : Int32} {f : Nat → Int32} {g : Nat → Nat → Int32} {n2 : Nat → Nat → Int64} {p : Nat → Nat → Int32} {pa : Nat → Nat → Nat → Int32} {s : Nat → Nat → Int32} {sa : Nat → Nat → Nat → Int32} {sw : Bool} {rp : Value} {t : List jE} {z : Nat × Nat × Nat × (Nat → Int32)} (hj : j < 3) : K_h_seenBy_48 D j x2 x3 x4 x5 x6 d7 d8 u0 f g n2 p pa s sa sw rp t z = if u0 = 0 then (K_h_seenBy_75 D j x2 x3 x4 x5 x6 u0 d8 f g n2 p pa s sa sw rp t z) else (if jout (x3 + x5) 6480 then none else (if ((g 3 (x3 + x5).toNatClampNeg) >>> (1 &&& 31)) = x6 then (if jout (x3 + x5) 6480 then none else (if ((g 3 (x3 + x5).toNatClampNeg) &&& 1) = 0 then (K_h_seenBy_73 D j x2 x3 x4 x5 (some (.int x6)) (some (.int u0)) d8 0 f g n2 p pa s sa sw rp t z) else (K_h_seenBy_73 D j x2 x3 x4 x5 (some (.int x6)) (some (.int u0)) d8 1 f g n2 p pa s sa sw rp t z))) else (K_h_seenBy_75 D j x2 x3 x4 x5 x6 u0 d8 f g n2 p pa s sa sw rp t z))) := by
  rcases jlt3 hj with rfl | rfl | rfl <;> cases sw
  · refine (jev_blk 3 (pc' := if u0 = 0 then 75 else 51) (L' := ([some (.ref 43), some (.ref (49 + 6 * 0)), some (.int x2), some (.int x3), some (.int x4), some (.int x5), some (.int x6), some (.int u0), d8], [])) (S' := []) (h' := (jX f g n2 p pa s sa false rp t, z)) rfl).trans (jev_ite.trans (jite_congr (fun _ => ?_) (fun _ => ?_)))
    · rfl
    · refine (jev_blk 5 (pc' := 56) (L' := ([some (.ref 43), some (.ref (49 + 6 * 0)), some (.int x2), some (.int x3), some (.int x4), some (.int x5), some (.int x6), some (.int u0), d8], [])) (S' := [.int (x3 + x5), .ref 48]) (h' := (jX f g n2 p pa s sa false rp t, z)) rfl).trans ?_
      refine (jev_grd (q := jout (x3 + x5) 6480) (pc' := 57) (L' := ([some (.ref 43), some (.ref (49 + 6 * 0)), some (.int x2), some (.int x3), some (.int x4), some (.int x5), some (.int x6), some (.int u0), d8], [])) (S' := [.int (g 3 (x3 + x5).toNatClampNeg)]) (h' := (jX f g n2 p pa s sa false rp t, z)) rfl).trans (jite_congr (fun _ => rfl) (fun _ => ?_))
      refine (jev_blk 4 (pc' := if ((g 3 (x3 + x5).toNatClampNeg) >>> (1 &&& 31)) = x6 then 61 else 75) (L' := ([some (.ref 43), some (.ref (49 + 6 * 0)), some (.int x2), some (.int x3), some (.int x4), some (.int x5), some (.int x6), some (.int u0), d8], [])) (S' := []) (h' := (jX f g n2 p pa s sa false rp t, z)) rfl).trans (jev_ite.trans (jite_congr (fun _ => ?_) (fun _ => ?_)))
      · refine (jev_blk 5 (pc' := 66) (L' := ([some (.ref 43), some (.ref (49 + 6 * 0)), some (.int x2), some (.int x3), some (.int x4), some (.int x5), some (.int x6), some (.int u0), d8], [])) (S' := [.int (x3 + x5), .ref 48]) (h' := (jX f g n2 p pa s sa false rp t, z)) rfl).trans ?_
        refine (jev_grd (q := jout (x3 + x5) 6480) (pc' := 67) (L' := ([some (.ref 43), some (.ref (49 + 6 * 0)), some (.int x2), some (.int x3), some (.int x4), some (.int x5), some (.int x6), some (.int u0), d8], [])) (S' := [.int (g 3 (x3 + x5).toNatClampNeg)]) (h' := (jX f g n2 p pa s sa false rp t, z)) rfl).trans (jite_congr (fun _ => rfl) (fun _ => ?_))
        refine (jev_blk 3 (pc' := if ((g 3 (x3 + x5).toNatClampNeg) &&& 1) = 0 then 72 else 70) (L' := ([some (.ref 43), some (.ref (49 + 6 * 0)), some (.int x2), some (.int x3), some (.int x4), some (.int x5), some (.int x6), some (.int u0), d8], [])) (S' := []) (h' := (jX f g n2 p pa s sa false rp t, z)) rfl).trans (jev_ite.trans (jite_congr (fun _ => ?_) (fun _ => ?_)))
        · exact jev_blk 1 rfl
        · exact jev_blk 2 rfl
      · rfl
  · refine (jev_blk 3 (pc' := if u0 = 0 then 75 else 51) (L' := ([some (.ref 43), some (.ref (49 + 6 * 0)), some (.int x2), some (.int x3), some (.int x4), some (.int x5), some (.int x6), some (.int u0), d8], [])) (S' := []) (h' := (jX f g n2 p pa s sa true rp t, z)) rfl).trans (jev_ite.trans (jite_congr (fun _ => ?_) (fun _ => ?_)))
    · rfl
    · refine (jev_blk 5 (pc' := 56) (L' := ([some (.ref 43), some (.ref (49 + 6 * 0)), some (.int x2), some (.int x3), some (.int x4), some (.int x5), some (.int x6), some (.int u0), d8], [])) (S' := [.int (x3 + x5), .ref 48]) (h' := (jX f g n2 p pa s sa true rp t, z)) rfl).trans ?_
      refine (jev_grd (q := jout (x3 + x5) 6480) (pc' := 57) (L' := ([some (.ref 43), some (.ref (49 + 6 * 0)), some (.int x2), some (.int x3), some (.int x4), some (.int x5), some (.int x6), some (.int u0), d8], [])) (S' := [.int (g 3 (x3 + x5).toNatClampNeg)]) (h' := (jX f g n2 p pa s sa true rp t, z)) rfl).trans (jite_congr (fun _ => rfl) (fun _ => ?_))
      refine (jev_blk 4 (pc' := if ((g 3 (x3 + x5).toNatClampNeg) >>> (1 &&& 31)) = x6 then 61 else 75) (L' := ([some (.ref 43), some (.ref (49 + 6 * 0)), some (.int x2), some (.int x3), some (.int x4), some (.int x5), some (.int x6), some (.int u0), d8], [])) (S' := []) (h' := (jX f g n2 p pa s sa true rp t, z)) rfl).trans (jev_ite.trans (jite_congr (fun _ => ?_) (fun _ => ?_)))
      · refine (jev_blk 5 (pc' := 66) (L' := ([some (.ref 43), some (.ref (49 + 6 * 0)), some (.int x2), some (.int x3), some (.int x4), some (.int x5), some (.int x6), some (.int u0), d8], [])) (S' := [.int (x3 + x5), .ref 48]) (h' := (jX f g n2 p pa s sa true rp t, z)) rfl).trans ?_
        refine (jev_grd (q := jout (x3 + x5) 6480) (pc' := 67) (L' := ([some (.ref 43), some (.ref (49 + 6 * 0)), some (.int x2), some (.int x3), some (.int x4), some (.int x5), some (.int x6), some (.int u0), d8], [])) (S' := [.int (g 3 (x3 + x5).toNatClampNeg)]) (h' := (jX f g n2 p pa s sa true rp t, z)) rfl).trans (jite_congr (fun _ => rfl) (fun _ => ?_))
        refine (jev_blk 3 (pc' := if ((g 3 (x3 + x5).toNatClampNeg) &&& 1) = 0 then 72 else 70) (L' := ([some (.ref 43), some (.ref (49 + 6 * 0)), some (.int x2), some (.int x3), some (.int x4), some (.int x5), some (.int x6), some (.int u0), d8], [])) (S' := []) (h' := (jX f g n2 p pa s sa true rp t, z)) rfl).trans (jev_ite.trans (jite_congr (fun _ => ?_) (fun _ => ?_)))
        · exact jev_blk 1 rfl
        · exact jev_blk 2 rfl
      · rfl
  · refine (jev_blk 3 (pc' := if u0 = 0 then 75 else 51) (L' := ([some (.ref 43), some (.ref (49 + 6 * 1)), some (.int x2), some (.int x3), some (.int x4), some (.int x5), some (.int x6), some (.int u0), d8], [])) (S' := []) (h' := (jX f g n2 p pa s sa false rp t, z)) rfl).trans (jev_ite.trans (jite_congr (fun _ => ?_) (fun _ => ?_)))
    · rfl
    · refine (jev_blk 5 (pc' := 56) (L' := ([some (.ref 43), some (.ref (49 + 6 * 1)), some (.int x2), some (.int x3), some (.int x4), some (.int x5), some (.int x6), some (.int u0), d8], [])) (S' := [.int (x3 + x5), .ref 48]) (h' := (jX f g n2 p pa s sa false rp t, z)) rfl).trans ?_
      refine (jev_grd (q := jout (x3 + x5) 6480) (pc' := 57) (L' := ([some (.ref 43), some (.ref (49 + 6 * 1)), some (.int x2), some (.int x3), some (.int x4), some (.int x5), some (.int x6), some (.int u0), d8], [])) (S' := [.int (g 3 (x3 + x5).toNatClampNeg)]) (h' := (jX f g n2 p pa s sa false rp t, z)) rfl).trans (jite_congr (fun _ => rfl) (fun _ => ?_))
      refine (jev_blk 4 (pc' := if ((g 3 (x3 + x5).toNatClampNeg) >>> (1 &&& 31)) = x6 then 61 else 75) (L' := ([some (.ref 43), some (.ref (49 + 6 * 1)), some (.int x2), some (.int x3), some (.int x4), some (.int x5), some (.int x6), some (.int u0), d8], [])) (S' := []) (h' := (jX f g n2 p pa s sa false rp t, z)) rfl).trans (jev_ite.trans (jite_congr (fun _ => ?_) (fun _ => ?_)))
      · refine (jev_blk 5 (pc' := 66) (L' := ([some (.ref 43), some (.ref (49 + 6 * 1)), some (.int x2), some (.int x3), some (.int x4), some (.int x5), some (.int x6), some (.int u0), d8], [])) (S' := [.int (x3 + x5), .ref 48]) (h' := (jX f g n2 p pa s sa false rp t, z)) rfl).trans ?_
        refine (jev_grd (q := jout (x3 + x5) 6480) (pc' := 67) (L' := ([some (.ref 43), some (.ref (49 + 6 * 1)), some (.int x2), some (.int x3), some (.int x4), some (.int x5), some (.int x6), some (.int u0), d8], [])) (S' := [.int (g 3 (x3 + x5).toNatClampNeg)]) (h' := (jX f g n2 p pa s sa false rp t, z)) rfl).trans (jite_congr (fun _ => rfl) (fun _ => ?_))
        refine (jev_blk 3 (pc' := if ((g 3 (x3 + x5).toNatClampNeg) &&& 1) = 0 then 72 else 70) (L' := ([some (.ref 43), some (.ref (49 + 6 * 1)), some (.int x2), some (.int x3), some (.int x4), some (.int x5), some (.int x6), some (.int u0), d8], [])) (S' := []) (h' := (jX f g n2 p pa s sa false rp t, z)) rfl).trans (jev_ite.trans (jite_congr (fun _ => ?_) (fun _ => ?_)))
        · exact jev_blk 1 rfl
        · exact jev_blk 2 rfl
      · rfl
  · refine (jev_blk 3 (pc' := if u0 = 0 then 75 else 51) (L' := ([some (.ref 43), some (.ref (49 + 6 * 1)), some (.int x2), some (.int x3), some (.int x4), some (.int x5), some (.int x6), some (.int u0), d8], [])) (S' := []) (h' := (jX f g n2 p pa s sa true rp t, z)) rfl).trans (jev_ite.trans (jite_congr (fun _ => ?_) (fun _ => ?_)))
    · rfl
    · refine (jev_blk 5 (pc' := 56) (L' := ([some (.ref 43), some (.ref (49 + 6 * 1)), some (.int x2), some (.int x3), some (.int x4), some (.int x5), some (.int x6), some (.int u0), d8], [])) (S' := [.int (x3 + x5), .ref 48]) (h' := (jX f g n2 p pa s sa true rp t, z)) rfl).trans ?_
      refine (jev_grd (q := jout (x3 + x5) 6480) (pc' := 57) (L' := ([some (.ref 43), some (.ref (49 + 6 * 1)), some (.int x2), some (.int x3), some (.int x4), some (.int x5), some (.int x6), some (.int u0), d8], [])) (S' := [.int (g 3 (x3 + x5).toNatClampNeg)]) (h' := (jX f g n2 p pa s sa true rp t, z)) rfl).trans (jite_congr (fun _ => rfl) (fun _ => ?_))
      refine (jev_blk 4 (pc' := if ((g 3 (x3 + x5).toNatClampNeg) >>> (1 &&& 31)) = x6 then 61 else 75) (L' := ([some (.ref 43), some (.ref (49 + 6 * 1)), some (.int x2), some (.int x3), some (.int x4), some (.int x5), some (.int x6), some (.int u0), d8], [])) (S' := []) (h' := (jX f g n2 p pa s sa true rp t, z)) rfl).trans (jev_ite.trans (jite_congr (fun _ => ?_) (fun _ => ?_)))
      · refine (jev_blk 5 (pc' := 66) (L' := ([some (.ref 43), some (.ref (49 + 6 * 1)), some (.int x2), some (.int x3), some (.int x4), some (.int x5), some (.int x6), some (.int u0), d8], [])) (S' := [.int (x3 + x5), .ref 48]) (h' := (jX f g n2 p pa s sa true rp t, z)) rfl).trans ?_
        refine (jev_grd (q := jout (x3 + x5) 6480) (pc' := 67) (L' := ([some (.ref 43), some (.ref (49 + 6 * 1)), some (.int x2), some (.int x3), some (.int x4), some (.int x5), some (.int x6), some (.int u0), d8], [])) (S' := [.int (g 3 (x3 + x5).toNatClampNeg)]) (h' := (jX f g n2 p pa s sa true rp t, z)) rfl).trans (jite_congr (fun _ => rfl) (fun _ => ?_))
        refine (jev_blk 3 (pc' := if ((g 3 (x3 + x5).toNatClampNeg) &&& 1) = 0 then 72 else 70) (L' := ([some (.ref 43), some (.ref (49 + 6 * 1)), some (.int x2), some (.int x3), some (.int x4), some (.int x5), some (.int x6), some (.int u0), d8], [])) (S' := []) (h' := (jX f g n2 p pa s sa true rp t, z)) rfl).trans (jev_ite.trans (jite_congr (fun _ => ?_) (fun _ => ?_)))
        · exact jev_blk 1 rfl
        · exact jev_blk 2 rfl
      · rfl
  · refine (jev_blk 3 (pc' := if u0 = 0 then 75 else 51) (L' := ([some (.ref 43), some (.ref (49 + 6 * 2)), some (.int x2), some (.int x3), some (.int x4), some (.int x5), some (.int x6), some (.int u0), d8], [])) (S' := []) (h' := (jX f g n2 p pa s sa false rp t, z)) rfl).trans (jev_ite.trans (jite_congr (fun _ => ?_) (fun _ => ?_)))
    · rfl
    · refine (jev_blk 5 (pc' := 56) (L' := ([some (.ref 43), some (.ref (49 + 6 * 2)), some (.int x2), some (.int x3), some (.int x4), some (.int x5), some (.int x6), some (.int u0), d8], [])) (S' := [.int (x3 + x5), .ref 48]) (h' := (jX f g n2 p pa s sa false rp t, z)) rfl).trans ?_
      refine (jev_grd (q := jout (x3 + x5) 6480) (pc' := 57) (L' := ([some (.ref 43), some (.ref (49 + 6 * 2)), some (.int x2), some (.int x3), some (.int x4), some (.int x5), some (.int x6), some (.int u0), d8], [])) (S' := [.int (g 3 (x3 + x5).toNatClampNeg)]) (h' := (jX f g n2 p pa s sa false rp t, z)) rfl).trans (jite_congr (fun _ => rfl) (fun _ => ?_))
      refine (jev_blk 4 (pc' := if ((g 3 (x3 + x5).toNatClampNeg) >>> (1 &&& 31)) = x6 then 61 else 75) (L' := ([some (.ref 43), some (.ref (49 + 6 * 2)), some (.int x2), some (.int x3), some (.int x4), some (.int x5), some (.int x6), some (.int u0), d8], [])) (S' := []) (h' := (jX f g n2 p pa s sa false rp t, z)) rfl).trans (jev_ite.trans (jite_congr (fun _ => ?_) (fun _ => ?_)))
      · refine (jev_blk 5 (pc' := 66) (L' := ([some (.ref 43), some (.ref (49 + 6 * 2)), some (.int x2), some (.int x3), some (.int x4), some (.int x5), some (.int x6), some (.int u0), d8], [])) (S' := [.int (x3 + x5), .ref 48]) (h' := (jX f g n2 p pa s sa false rp t, z)) rfl).trans ?_
        refine (jev_grd (q := jout (x3 + x5) 6480) (pc' := 67) (L' := ([some (.ref 43), some (.ref (49 + 6 * 2)), some (.int x2), some (.int x3), some (.int x4), some (.int x5), some (.int x6), some (.int u0), d8], [])) (S' := [.int (g 3 (x3 + x5).toNatClampNeg)]) (h' := (jX f g n2 p pa s sa false rp t, z)) rfl).trans (jite_congr (fun _ => rfl) (fun _ => ?_))
        refine (jev_blk 3 (pc' := if ((g 3 (x3 + x5).toNatClampNeg) &&& 1) = 0 then 72 else 70) (L' := ([some (.ref 43), some (.ref (49 + 6 * 2)), some (.int x2), some (.int x3), some (.int x4), some (.int x5), some (.int x6), some (.int u0), d8], [])) (S' := []) (h' := (jX f g n2 p pa s sa false rp t, z)) rfl).trans (jev_ite.trans (jite_congr (fun _ => ?_) (fun _ => ?_)))
        · exact jev_blk 1 rfl
        · exact jev_blk 2 rfl
      · rfl
  · refine (jev_blk 3 (pc' := if u0 = 0 then 75 else 51) (L' := ([some (.ref 43), some (.ref (49 + 6 * 2)), some (.int x2), some (.int x3), some (.int x4), some (.int x5), some (.int x6), some (.int u0), d8], [])) (S' := []) (h' := (jX f g n2 p pa s sa true rp t, z)) rfl).trans (jev_ite.trans (jite_congr (fun _ => ?_) (fun _ => ?_)))
    · rfl
    · refine (jev_blk 5 (pc' := 56) (L' := ([some (.ref 43), some (.ref (49 + 6 * 2)), some (.int x2), some (.int x3), some (.int x4), some (.int x5), some (.int x6), some (.int u0), d8], [])) (S' := [.int (x3 + x5), .ref 48]) (h' := (jX f g n2 p pa s sa true rp t, z)) rfl).trans ?_
      refine (jev_grd (q := jout (x3 + x5) 6480) (pc' := 57) (L' := ([some (.ref 43), some (.ref (49 + 6 * 2)), some (.int x2), some (.int x3), some (.int x4), some (.int x5), some (.int x6), some (.int u0), d8], [])) (S' := [.int (g 3 (x3 + x5).toNatClampNeg)]) (h' := (jX f g n2 p pa s sa true rp t, z)) rfl).trans (jite_congr (fun _ => rfl) (fun _ => ?_))
      refine (jev_blk 4 (pc' := if ((g 3 (x3 + x5).toNatClampNeg) >>> (1 &&& 31)) = x6 then 61 else 75) (L' := ([some (.ref 43), some (.ref (49 + 6 * 2)), some (.int x2), some (.int x3), some (.int x4), some (.int x5), some (.int x6), some (.int u0), d8], [])) (S' := []) (h' := (jX f g n2 p pa s sa true rp t, z)) rfl).trans (jev_ite.trans (jite_congr (fun _ => ?_) (fun _ => ?_)))
      · refine (jev_blk 5 (pc' := 66) (L' := ([some (.ref 43), some (.ref (49 + 6 * 2)), some (.int x2), some (.int x3), some (.int x4), some (.int x5), some (.int x6), some (.int u0), d8], [])) (S' := [.int (x3 + x5), .ref 48]) (h' := (jX f g n2 p pa s sa true rp t, z)) rfl).trans ?_
        refine (jev_grd (q := jout (x3 + x5) 6480) (pc' := 67) (L' := ([some (.ref 43), some (.ref (49 + 6 * 2)), some (.int x2), some (.int x3), some (.int x4), some (.int x5), some (.int x6), some (.int u0), d8], [])) (S' := [.int (g 3 (x3 + x5).toNatClampNeg)]) (h' := (jX f g n2 p pa s sa true rp t, z)) rfl).trans (jite_congr (fun _ => rfl) (fun _ => ?_))
        refine (jev_blk 3 (pc' := if ((g 3 (x3 + x5).toNatClampNeg) &&& 1) = 0 then 72 else 70) (L' := ([some (.ref 43), some (.ref (49 + 6 * 2)), some (.int x2), some (.int x3), some (.int x4), some (.int x5), some (.int x6), some (.int u0), d8], [])) (S' := []) (h' := (jX f g n2 p pa s sa true rp t, z)) rfl).trans (jev_ite.trans (jite_congr (fun _ => ?_) (fun _ => ?_)))
        · exact jev_blk 1 rfl
        · exact jev_blk 2 rfl
      · rfl
set_option maxRecDepth 20000 in
theorem E_h_seenBy_75 {D : Nat} {j : Nat} {x2 : Int32} {x3 : Int32} {x4 : Int32} {x5 : Int32} {x6 : Int32} {x7 : Int32} {d8 : Option Value} {f : Nat → Int32} {g : Nat → Nat → Int32} {n2 : Nat → Nat → Int64} {p : Nat → Nat → Int32} {pa : Nat → Nat → Nat → Int32} {s : Nat → Nat → Int32} {sa : Nat → Nat → Nat → Int32} {sw : Bool} {rp : Value} {t : List jE} {z : Nat × Nat × Nat × (Nat → Int32)} (hj : j < 3) : K_h_seenBy_75 D j x2 x3 x4 x5 x6 x7 d8 f g n2 p pa s sa sw rp t z = if jout x2 6 then none else (jbO (K_h_looks D (pa (jq sw) 2 x2.toNatClampNeg) x5 x6 f g n2 p pa s sa sw rp t z) (jk D 7 84 ([some (.ref 43), some (.ref (49 + 6 * j)), some (.int x2), some (.int x3), some (.int x4), some (.int x5), some (.int x6), some (.int x7), d8], []) [])) := by
  rcases jlt3 hj with rfl | rfl | rfl <;> cases sw
  · refine (jev_blk 5 (pc' := 80) (L' := ([some (.ref 43), some (.ref (49 + 6 * 0)), some (.int x2), some (.int x3), some (.int x4), some (.int x5), some (.int x6), some (.int x7), d8], [])) (S' := [.int x2, .ref ((jpl false) + 3), .ref 43]) (h' := (jX f g n2 p pa s sa false rp t, z)) rfl).trans ?_
    refine (jev_grd (q := jout x2 6) (pc' := 81) (L' := ([some (.ref 43), some (.ref (49 + 6 * 0)), some (.int x2), some (.int x3), some (.int x4), some (.int x5), some (.int x6), some (.int x7), d8], [])) (S' := [.int (pa (jq false) 2 x2.toNatClampNeg), .ref 43]) (h' := (jX f g n2 p pa s sa false rp t, z)) rfl).trans (jite_congr (fun _ => rfl) (fun _ => ?_))
    refine (jev_blk 2 (pc' := 83) (L' := ([some (.ref 43), some (.ref (49 + 6 * 0)), some (.int x2), some (.int x3), some (.int x4), some (.int x5), some (.int x6), some (.int x7), d8], [])) (S' := [.int x6, .int x5, .int (pa (jq false) 2 x2.toNatClampNeg), .ref 43]) (h' := (jX f g n2 p pa s sa false rp t, z)) rfl).trans ?_
    exact jev_callb (nx := 84) (rest := []) rfl
  · refine (jev_blk 5 (pc' := 80) (L' := ([some (.ref 43), some (.ref (49 + 6 * 0)), some (.int x2), some (.int x3), some (.int x4), some (.int x5), some (.int x6), some (.int x7), d8], [])) (S' := [.int x2, .ref ((jpl true) + 3), .ref 43]) (h' := (jX f g n2 p pa s sa true rp t, z)) rfl).trans ?_
    refine (jev_grd (q := jout x2 6) (pc' := 81) (L' := ([some (.ref 43), some (.ref (49 + 6 * 0)), some (.int x2), some (.int x3), some (.int x4), some (.int x5), some (.int x6), some (.int x7), d8], [])) (S' := [.int (pa (jq true) 2 x2.toNatClampNeg), .ref 43]) (h' := (jX f g n2 p pa s sa true rp t, z)) rfl).trans (jite_congr (fun _ => rfl) (fun _ => ?_))
    refine (jev_blk 2 (pc' := 83) (L' := ([some (.ref 43), some (.ref (49 + 6 * 0)), some (.int x2), some (.int x3), some (.int x4), some (.int x5), some (.int x6), some (.int x7), d8], [])) (S' := [.int x6, .int x5, .int (pa (jq true) 2 x2.toNatClampNeg), .ref 43]) (h' := (jX f g n2 p pa s sa true rp t, z)) rfl).trans ?_
    exact jev_callb (nx := 84) (rest := []) rfl
  · refine (jev_blk 5 (pc' := 80) (L' := ([some (.ref 43), some (.ref (49 + 6 * 1)), some (.int x2), some (.int x3), some (.int x4), some (.int x5), some (.int x6), some (.int x7), d8], [])) (S' := [.int x2, .ref ((jpl false) + 3), .ref 43]) (h' := (jX f g n2 p pa s sa false rp t, z)) rfl).trans ?_
    refine (jev_grd (q := jout x2 6) (pc' := 81) (L' := ([some (.ref 43), some (.ref (49 + 6 * 1)), some (.int x2), some (.int x3), some (.int x4), some (.int x5), some (.int x6), some (.int x7), d8], [])) (S' := [.int (pa (jq false) 2 x2.toNatClampNeg), .ref 43]) (h' := (jX f g n2 p pa s sa false rp t, z)) rfl).trans (jite_congr (fun _ => rfl) (fun _ => ?_))
    refine (jev_blk 2 (pc' := 83) (L' := ([some (.ref 43), some (.ref (49 + 6 * 1)), some (.int x2), some (.int x3), some (.int x4), some (.int x5), some (.int x6), some (.int x7), d8], [])) (S' := [.int x6, .int x5, .int (pa (jq false) 2 x2.toNatClampNeg), .ref 43]) (h' := (jX f g n2 p pa s sa false rp t, z)) rfl).trans ?_
    exact jev_callb (nx := 84) (rest := []) rfl
  · refine (jev_blk 5 (pc' := 80) (L' := ([some (.ref 43), some (.ref (49 + 6 * 1)), some (.int x2), some (.int x3), some (.int x4), some (.int x5), some (.int x6), some (.int x7), d8], [])) (S' := [.int x2, .ref ((jpl true) + 3), .ref 43]) (h' := (jX f g n2 p pa s sa true rp t, z)) rfl).trans ?_
    refine (jev_grd (q := jout x2 6) (pc' := 81) (L' := ([some (.ref 43), some (.ref (49 + 6 * 1)), some (.int x2), some (.int x3), some (.int x4), some (.int x5), some (.int x6), some (.int x7), d8], [])) (S' := [.int (pa (jq true) 2 x2.toNatClampNeg), .ref 43]) (h' := (jX f g n2 p pa s sa true rp t, z)) rfl).trans (jite_congr (fun _ => rfl) (fun _ => ?_))
    refine (jev_blk 2 (pc' := 83) (L' := ([some (.ref 43), some (.ref (49 + 6 * 1)), some (.int x2), some (.int x3), some (.int x4), some (.int x5), some (.int x6), some (.int x7), d8], [])) (S' := [.int x6, .int x5, .int (pa (jq true) 2 x2.toNatClampNeg), .ref 43]) (h' := (jX f g n2 p pa s sa true rp t, z)) rfl).trans ?_
    exact jev_callb (nx := 84) (rest := []) rfl
  · refine (jev_blk 5 (pc' := 80) (L' := ([some (.ref 43), some (.ref (49 + 6 * 2)), some (.int x2), some (.int x3), some (.int x4), some (.int x5), some (.int x6), some (.int x7), d8], [])) (S' := [.int x2, .ref ((jpl false) + 3), .ref 43]) (h' := (jX f g n2 p pa s sa false rp t, z)) rfl).trans ?_
    refine (jev_grd (q := jout x2 6) (pc' := 81) (L' := ([some (.ref 43), some (.ref (49 + 6 * 2)), some (.int x2), some (.int x3), some (.int x4), some (.int x5), some (.int x6), some (.int x7), d8], [])) (S' := [.int (pa (jq false) 2 x2.toNatClampNeg), .ref 43]) (h' := (jX f g n2 p pa s sa false rp t, z)) rfl).trans (jite_congr (fun _ => rfl) (fun _ => ?_))
    refine (jev_blk 2 (pc' := 83) (L' := ([some (.ref 43), some (.ref (49 + 6 * 2)), some (.int x2), some (.int x3), some (.int x4), some (.int x5), some (.int x6), some (.int x7), d8], [])) (S' := [.int x6, .int x5, .int (pa (jq false) 2 x2.toNatClampNeg), .ref 43]) (h' := (jX f g n2 p pa s sa false rp t, z)) rfl).trans ?_
    exact jev_callb (nx := 84) (rest := []) rfl
  · refine (jev_blk 5 (pc' := 80) (L' := ([some (.ref 43), some (.ref (49 + 6 * 2)), some (.int x2), some (.int x3), some (.int x4), some (.int x5), some (.int x6), some (.int x7), d8], [])) (S' := [.int x2, .ref ((jpl true) + 3), .ref 43]) (h' := (jX f g n2 p pa s sa true rp t, z)) rfl).trans ?_
    refine (jev_grd (q := jout x2 6) (pc' := 81) (L' := ([some (.ref 43), some (.ref (49 + 6 * 2)), some (.int x2), some (.int x3), some (.int x4), some (.int x5), some (.int x6), some (.int x7), d8], [])) (S' := [.int (pa (jq true) 2 x2.toNatClampNeg), .ref 43]) (h' := (jX f g n2 p pa s sa true rp t, z)) rfl).trans (jite_congr (fun _ => rfl) (fun _ => ?_))
    refine (jev_blk 2 (pc' := 83) (L' := ([some (.ref 43), some (.ref (49 + 6 * 2)), some (.int x2), some (.int x3), some (.int x4), some (.int x5), some (.int x6), some (.int x7), d8], [])) (S' := [.int x6, .int x5, .int (pa (jq true) 2 x2.toNatClampNeg), .ref 43]) (h' := (jX f g n2 p pa s sa true rp t, z)) rfl).trans ?_
    exact jev_callb (nx := 84) (rest := []) rfl
set_option maxRecDepth 20000 in
theorem E_h_seenBy_73 {D : Nat} {j : Nat} {x2 : Int32} {x3 : Int32} {x4 : Int32} {x5 : Int32} {d6 : Option Value} {d7 : Option Value} {d8 : Option Value} {u0 : Int32} {f : Nat → Int32} {g : Nat → Nat → Int32} {n2 : Nat → Nat → Int64} {p : Nat → Nat → Int32} {pa : Nat → Nat → Nat → Int32} {s : Nat → Nat → Int32} {sa : Nat → Nat → Nat → Int32} {sw : Bool} {rp : Value} {t : List jE} {z : Nat × Nat × Nat × (Nat → Int32)} (hj : j < 3) : K_h_seenBy_73 D j x2 x3 x4 x5 d6 d7 d8 u0 f g n2 p pa s sa sw rp t z = K_h_seenBy_102 D j x2 x3 x4 x5 d6 d7 u0 f g n2 p pa s sa sw rp t z := by
  rcases jlt3 hj with rfl | rfl | rfl <;> cases sw
  · exact jev_blk 2 rfl
  · exact jev_blk 2 rfl
  · exact jev_blk 2 rfl
  · exact jev_blk 2 rfl
  · exact jev_blk 2 rfl
  · exact jev_blk 2 rfl
set_option maxRecDepth 20000 in
theorem E_h_seenBy_102 {D : Nat} {j : Nat} {x2 : Int32} {x3 : Int32} {x4 : Int32} {x5 : Int32} {d6 : Option Value} {d7 : Option Value} {x8 : Int32} {f : Nat → Int32} {g : Nat → Nat → Int32} {n2 : Nat → Nat → Int64} {p : Nat → Nat → Int32} {pa : Nat → Nat → Nat → Int32} {s : Nat → Nat → Int32} {sa : Nat → Nat → Nat → Int32} {sw : Bool} {rp : Value} {t : List jE} {z : Nat × Nat × Nat × (Nat → Int32)} (hj : j < 3) : K_h_seenBy_102 D j x2 x3 x4 x5 d6 d7 x8 f g n2 p pa s sa sw rp t z = if x8 = 0 then (K_h_seenBy_110 D j x2 x3 x4 x5 d6 d7 (some (.int x8)) f g n2 p pa s sa sw rp t z) else (K_h_seenBy_110 D j x2 x3 (x4 ||| (1 <<< (x5 &&& 31))) x5 d6 d7 (some (.int x8)) f g n2 p pa s sa sw rp t z) := by
  rcases jlt3 hj with rfl | rfl | rfl <;> cases sw
  · refine (jev_blk 2 (pc' := if x8 = 0 then 110 else 104) (L' := ([some (.ref 43), some (.ref (49 + 6 * 0)), some (.int x2), some (.int x3), some (.int x4), some (.int x5), d6, d7, some (.int x8)], [])) (S' := []) (h' := (jX f g n2 p pa s sa false rp t, z)) rfl).trans (jev_ite.trans (jite_congr (fun _ => ?_) (fun _ => ?_)))
    · rfl
    · exact jev_blk 6 rfl
  · refine (jev_blk 2 (pc' := if x8 = 0 then 110 else 104) (L' := ([some (.ref 43), some (.ref (49 + 6 * 0)), some (.int x2), some (.int x3), some (.int x4), some (.int x5), d6, d7, some (.int x8)], [])) (S' := []) (h' := (jX f g n2 p pa s sa true rp t, z)) rfl).trans (jev_ite.trans (jite_congr (fun _ => ?_) (fun _ => ?_)))
    · rfl
    · exact jev_blk 6 rfl
  · refine (jev_blk 2 (pc' := if x8 = 0 then 110 else 104) (L' := ([some (.ref 43), some (.ref (49 + 6 * 1)), some (.int x2), some (.int x3), some (.int x4), some (.int x5), d6, d7, some (.int x8)], [])) (S' := []) (h' := (jX f g n2 p pa s sa false rp t, z)) rfl).trans (jev_ite.trans (jite_congr (fun _ => ?_) (fun _ => ?_)))
    · rfl
    · exact jev_blk 6 rfl
  · refine (jev_blk 2 (pc' := if x8 = 0 then 110 else 104) (L' := ([some (.ref 43), some (.ref (49 + 6 * 1)), some (.int x2), some (.int x3), some (.int x4), some (.int x5), d6, d7, some (.int x8)], [])) (S' := []) (h' := (jX f g n2 p pa s sa true rp t, z)) rfl).trans (jev_ite.trans (jite_congr (fun _ => ?_) (fun _ => ?_)))
    · rfl
    · exact jev_blk 6 rfl
  · refine (jev_blk 2 (pc' := if x8 = 0 then 110 else 104) (L' := ([some (.ref 43), some (.ref (49 + 6 * 2)), some (.int x2), some (.int x3), some (.int x4), some (.int x5), d6, d7, some (.int x8)], [])) (S' := []) (h' := (jX f g n2 p pa s sa false rp t, z)) rfl).trans (jev_ite.trans (jite_congr (fun _ => ?_) (fun _ => ?_)))
    · rfl
    · exact jev_blk 6 rfl
  · refine (jev_blk 2 (pc' := if x8 = 0 then 110 else 104) (L' := ([some (.ref 43), some (.ref (49 + 6 * 2)), some (.int x2), some (.int x3), some (.int x4), some (.int x5), d6, d7, some (.int x8)], [])) (S' := []) (h' := (jX f g n2 p pa s sa true rp t, z)) rfl).trans (jev_ite.trans (jite_congr (fun _ => ?_) (fun _ => ?_)))
    · rfl
    · exact jev_blk 6 rfl
set_option maxRecDepth 20000 in
theorem E_h_seenBy_110 {D : Nat} {j : Nat} {x2 : Int32} {x3 : Int32} {x4 : Int32} {x5 : Int32} {d6 : Option Value} {d7 : Option Value} {d8 : Option Value} {f : Nat → Int32} {g : Nat → Nat → Int32} {n2 : Nat → Nat → Int64} {p : Nat → Nat → Int32} {pa : Nat → Nat → Nat → Int32} {s : Nat → Nat → Int32} {sa : Nat → Nat → Nat → Int32} {sw : Bool} {rp : Value} {t : List jE} {z : Nat × Nat × Nat × (Nat → Int32)} (hj : j < 3) : K_h_seenBy_110 D j x2 x3 x4 x5 d6 d7 d8 f g n2 p pa s sa sw rp t z = K_h_seenBy_28 D j x2 x3 x4 (x5 + 1) d6 d7 d8 f g n2 p pa s sa sw rp t z := by
  rcases jlt3 hj with rfl | rfl | rfl <;> cases sw
  · exact jev_blk 2 rfl
  · exact jev_blk 2 rfl
  · exact jev_blk 2 rfl
  · exact jev_blk 2 rfl
  · exact jev_blk 2 rfl
  · exact jev_blk 2 rfl
set_option maxRecDepth 20000 in
theorem E_h_seenBy_84 {D : Nat} {j : Nat} {x2 : Int32} {x3 : Int32} {x4 : Int32} {x5 : Int32} {x6 : Int32} {x7 : Int32} {d8 : Option Value} {u0 : Int32} {f : Nat → Int32} {g : Nat → Nat → Int32} {n2 : Nat → Nat → Int64} {p : Nat → Nat → Int32} {pa : Nat → Nat → Nat → Int32} {s : Nat → Nat → Int32} {sa : Nat → Nat → Nat → Int32} {sw : Bool} {rp : Value} {t : List jE} {z : Nat × Nat × Nat × (Nat → Int32)} (hj : j < 3) : jev D 7 84 ([some (.ref 43), some (.ref (49 + 6 * j)), some (.int x2), some (.int x3), some (.int x4), some (.int x5), some (.int x6), some (.int x7), d8], []) [.int u0] (jX f g n2 p pa s sa sw rp t, z) = if x7 = 0 then (K_h_seenBy_102 D j x2 x3 x4 x5 (some (.int x6)) (some (.int x7)) u0 f g n2 p pa s sa sw rp t z) else (if u0 = 0 then (K_h_seenBy_100 D j x2 x3 x4 x5 (some (.int x6)) (some (.int x7)) u0 0 (x6 * 2) (x3 + x5) f g n2 p pa s sa sw rp t z) else (K_h_seenBy_100 D j x2 x3 x4 x5 (some (.int x6)) (some (.int x7)) u0 1 (x6 * 2) (x3 + x5) f g n2 p pa s sa sw rp t z)) := by
  rcases jlt3 hj with rfl | rfl | rfl <;> cases sw
  · refine (jev_blk 3 (pc' := if x7 = 0 then 102 else 87) (L' := ([some (.ref 43), some (.ref (49 + 6 * 0)), some (.int x2), some (.int x3), some (.int x4), some (.int x5), some (.int x6), some (.int x7), some (.int u0)], [])) (S' := []) (h' := (jX f g n2 p pa s sa false rp t, z)) rfl).trans (jev_ite.trans (jite_congr (fun _ => ?_) (fun _ => ?_)))
    · rfl
    · refine (jev_blk 10 (pc' := if u0 = 0 then 99 else 97) (L' := ([some (.ref 43), some (.ref (49 + 6 * 0)), some (.int x2), some (.int x3), some (.int x4), some (.int x5), some (.int x6), some (.int x7), some (.int u0)], [])) (S' := [.int (x6 * 2), .int (x3 + x5), .ref 48]) (h' := (jX f g n2 p pa s sa false rp t, z)) rfl).trans (jev_ite.trans (jite_congr (fun _ => ?_) (fun _ => ?_)))
      · exact jev_blk 1 rfl
      · exact jev_blk 2 rfl
  · refine (jev_blk 3 (pc' := if x7 = 0 then 102 else 87) (L' := ([some (.ref 43), some (.ref (49 + 6 * 0)), some (.int x2), some (.int x3), some (.int x4), some (.int x5), some (.int x6), some (.int x7), some (.int u0)], [])) (S' := []) (h' := (jX f g n2 p pa s sa true rp t, z)) rfl).trans (jev_ite.trans (jite_congr (fun _ => ?_) (fun _ => ?_)))
    · rfl
    · refine (jev_blk 10 (pc' := if u0 = 0 then 99 else 97) (L' := ([some (.ref 43), some (.ref (49 + 6 * 0)), some (.int x2), some (.int x3), some (.int x4), some (.int x5), some (.int x6), some (.int x7), some (.int u0)], [])) (S' := [.int (x6 * 2), .int (x3 + x5), .ref 48]) (h' := (jX f g n2 p pa s sa true rp t, z)) rfl).trans (jev_ite.trans (jite_congr (fun _ => ?_) (fun _ => ?_)))
      · exact jev_blk 1 rfl
      · exact jev_blk 2 rfl
  · refine (jev_blk 3 (pc' := if x7 = 0 then 102 else 87) (L' := ([some (.ref 43), some (.ref (49 + 6 * 1)), some (.int x2), some (.int x3), some (.int x4), some (.int x5), some (.int x6), some (.int x7), some (.int u0)], [])) (S' := []) (h' := (jX f g n2 p pa s sa false rp t, z)) rfl).trans (jev_ite.trans (jite_congr (fun _ => ?_) (fun _ => ?_)))
    · rfl
    · refine (jev_blk 10 (pc' := if u0 = 0 then 99 else 97) (L' := ([some (.ref 43), some (.ref (49 + 6 * 1)), some (.int x2), some (.int x3), some (.int x4), some (.int x5), some (.int x6), some (.int x7), some (.int u0)], [])) (S' := [.int (x6 * 2), .int (x3 + x5), .ref 48]) (h' := (jX f g n2 p pa s sa false rp t, z)) rfl).trans (jev_ite.trans (jite_congr (fun _ => ?_) (fun _ => ?_)))
      · exact jev_blk 1 rfl
      · exact jev_blk 2 rfl
  · refine (jev_blk 3 (pc' := if x7 = 0 then 102 else 87) (L' := ([some (.ref 43), some (.ref (49 + 6 * 1)), some (.int x2), some (.int x3), some (.int x4), some (.int x5), some (.int x6), some (.int x7), some (.int u0)], [])) (S' := []) (h' := (jX f g n2 p pa s sa true rp t, z)) rfl).trans (jev_ite.trans (jite_congr (fun _ => ?_) (fun _ => ?_)))
    · rfl
    · refine (jev_blk 10 (pc' := if u0 = 0 then 99 else 97) (L' := ([some (.ref 43), some (.ref (49 + 6 * 1)), some (.int x2), some (.int x3), some (.int x4), some (.int x5), some (.int x6), some (.int x7), some (.int u0)], [])) (S' := [.int (x6 * 2), .int (x3 + x5), .ref 48]) (h' := (jX f g n2 p pa s sa true rp t, z)) rfl).trans (jev_ite.trans (jite_congr (fun _ => ?_) (fun _ => ?_)))
      · exact jev_blk 1 rfl
      · exact jev_blk 2 rfl
  · refine (jev_blk 3 (pc' := if x7 = 0 then 102 else 87) (L' := ([some (.ref 43), some (.ref (49 + 6 * 2)), some (.int x2), some (.int x3), some (.int x4), some (.int x5), some (.int x6), some (.int x7), some (.int u0)], [])) (S' := []) (h' := (jX f g n2 p pa s sa false rp t, z)) rfl).trans (jev_ite.trans (jite_congr (fun _ => ?_) (fun _ => ?_)))
    · rfl
    · refine (jev_blk 10 (pc' := if u0 = 0 then 99 else 97) (L' := ([some (.ref 43), some (.ref (49 + 6 * 2)), some (.int x2), some (.int x3), some (.int x4), some (.int x5), some (.int x6), some (.int x7), some (.int u0)], [])) (S' := [.int (x6 * 2), .int (x3 + x5), .ref 48]) (h' := (jX f g n2 p pa s sa false rp t, z)) rfl).trans (jev_ite.trans (jite_congr (fun _ => ?_) (fun _ => ?_)))
      · exact jev_blk 1 rfl
      · exact jev_blk 2 rfl
  · refine (jev_blk 3 (pc' := if x7 = 0 then 102 else 87) (L' := ([some (.ref 43), some (.ref (49 + 6 * 2)), some (.int x2), some (.int x3), some (.int x4), some (.int x5), some (.int x6), some (.int x7), some (.int u0)], [])) (S' := []) (h' := (jX f g n2 p pa s sa true rp t, z)) rfl).trans (jev_ite.trans (jite_congr (fun _ => ?_) (fun _ => ?_)))
    · rfl
    · refine (jev_blk 10 (pc' := if u0 = 0 then 99 else 97) (L' := ([some (.ref 43), some (.ref (49 + 6 * 2)), some (.int x2), some (.int x3), some (.int x4), some (.int x5), some (.int x6), some (.int x7), some (.int u0)], [])) (S' := [.int (x6 * 2), .int (x3 + x5), .ref 48]) (h' := (jX f g n2 p pa s sa true rp t, z)) rfl).trans (jev_ite.trans (jite_congr (fun _ => ?_) (fun _ => ?_)))
      · exact jev_blk 1 rfl
      · exact jev_blk 2 rfl
set_option maxRecDepth 20000 in
theorem E_h_seenBy_100 {D : Nat} {j : Nat} {x2 : Int32} {x3 : Int32} {x4 : Int32} {x5 : Int32} {d6 : Option Value} {d7 : Option Value} {x8 : Int32} {u0 : Int32} {u1 : Int32} {u2 : Int32} {f : Nat → Int32} {g : Nat → Nat → Int32} {n2 : Nat → Nat → Int64} {p : Nat → Nat → Int32} {pa : Nat → Nat → Nat → Int32} {s : Nat → Nat → Int32} {sa : Nat → Nat → Nat → Int32} {sw : Bool} {rp : Value} {t : List jE} {z : Nat × Nat × Nat × (Nat → Int32)} (hj : j < 3) : K_h_seenBy_100 D j x2 x3 x4 x5 d6 d7 x8 u0 u1 u2 f g n2 p pa s sa sw rp t z = if jout u2 6480 then none else (K_h_seenBy_102 D j x2 x3 x4 x5 d6 d7 x8 f (jup g 3 ((jup (g 3) (u2.toNatClampNeg) (u1 + u0)))) n2 p pa s sa sw rp t z) := by
  rcases jlt3 hj with rfl | rfl | rfl <;> cases sw
  · refine (jev_blk 1 (pc' := 101) (L' := ([some (.ref 43), some (.ref (49 + 6 * 0)), some (.int x2), some (.int x3), some (.int x4), some (.int x5), d6, d7, some (.int x8)], [])) (S' := [.int (u1 + u0), .int u2, .ref 48]) (h' := (jX f g n2 p pa s sa false rp t, z)) rfl).trans ?_
    refine (jev_grd (q := jout u2 6480) (pc' := 102) (L' := ([some (.ref 43), some (.ref (49 + 6 * 0)), some (.int x2), some (.int x3), some (.int x4), some (.int x5), d6, d7, some (.int x8)], [])) (S' := []) (h' := (jX f (jup g 3 ((jup (g 3) (u2.toNatClampNeg) (u1 + u0)))) n2 p pa s sa false rp t, z)) rfl).trans (jite_congr (fun _ => rfl) (fun _ => ?_))
    rfl
  · refine (jev_blk 1 (pc' := 101) (L' := ([some (.ref 43), some (.ref (49 + 6 * 0)), some (.int x2), some (.int x3), some (.int x4), some (.int x5), d6, d7, some (.int x8)], [])) (S' := [.int (u1 + u0), .int u2, .ref 48]) (h' := (jX f g n2 p pa s sa true rp t, z)) rfl).trans ?_
    refine (jev_grd (q := jout u2 6480) (pc' := 102) (L' := ([some (.ref 43), some (.ref (49 + 6 * 0)), some (.int x2), some (.int x3), some (.int x4), some (.int x5), d6, d7, some (.int x8)], [])) (S' := []) (h' := (jX f (jup g 3 ((jup (g 3) (u2.toNatClampNeg) (u1 + u0)))) n2 p pa s sa true rp t, z)) rfl).trans (jite_congr (fun _ => rfl) (fun _ => ?_))
    rfl
  · refine (jev_blk 1 (pc' := 101) (L' := ([some (.ref 43), some (.ref (49 + 6 * 1)), some (.int x2), some (.int x3), some (.int x4), some (.int x5), d6, d7, some (.int x8)], [])) (S' := [.int (u1 + u0), .int u2, .ref 48]) (h' := (jX f g n2 p pa s sa false rp t, z)) rfl).trans ?_
    refine (jev_grd (q := jout u2 6480) (pc' := 102) (L' := ([some (.ref 43), some (.ref (49 + 6 * 1)), some (.int x2), some (.int x3), some (.int x4), some (.int x5), d6, d7, some (.int x8)], [])) (S' := []) (h' := (jX f (jup g 3 ((jup (g 3) (u2.toNatClampNeg) (u1 + u0)))) n2 p pa s sa false rp t, z)) rfl).trans (jite_congr (fun _ => rfl) (fun _ => ?_))
    rfl
  · refine (jev_blk 1 (pc' := 101) (L' := ([some (.ref 43), some (.ref (49 + 6 * 1)), some (.int x2), some (.int x3), some (.int x4), some (.int x5), d6, d7, some (.int x8)], [])) (S' := [.int (u1 + u0), .int u2, .ref 48]) (h' := (jX f g n2 p pa s sa true rp t, z)) rfl).trans ?_
    refine (jev_grd (q := jout u2 6480) (pc' := 102) (L' := ([some (.ref 43), some (.ref (49 + 6 * 1)), some (.int x2), some (.int x3), some (.int x4), some (.int x5), d6, d7, some (.int x8)], [])) (S' := []) (h' := (jX f (jup g 3 ((jup (g 3) (u2.toNatClampNeg) (u1 + u0)))) n2 p pa s sa true rp t, z)) rfl).trans (jite_congr (fun _ => rfl) (fun _ => ?_))
    rfl
  · refine (jev_blk 1 (pc' := 101) (L' := ([some (.ref 43), some (.ref (49 + 6 * 2)), some (.int x2), some (.int x3), some (.int x4), some (.int x5), d6, d7, some (.int x8)], [])) (S' := [.int (u1 + u0), .int u2, .ref 48]) (h' := (jX f g n2 p pa s sa false rp t, z)) rfl).trans ?_
    refine (jev_grd (q := jout u2 6480) (pc' := 102) (L' := ([some (.ref 43), some (.ref (49 + 6 * 2)), some (.int x2), some (.int x3), some (.int x4), some (.int x5), d6, d7, some (.int x8)], [])) (S' := []) (h' := (jX f (jup g 3 ((jup (g 3) (u2.toNatClampNeg) (u1 + u0)))) n2 p pa s sa false rp t, z)) rfl).trans (jite_congr (fun _ => rfl) (fun _ => ?_))
    rfl
  · refine (jev_blk 1 (pc' := 101) (L' := ([some (.ref 43), some (.ref (49 + 6 * 2)), some (.int x2), some (.int x3), some (.int x4), some (.int x5), d6, d7, some (.int x8)], [])) (S' := [.int (u1 + u0), .int u2, .ref 48]) (h' := (jX f g n2 p pa s sa true rp t, z)) rfl).trans ?_
    refine (jev_grd (q := jout u2 6480) (pc' := 102) (L' := ([some (.ref 43), some (.ref (49 + 6 * 2)), some (.int x2), some (.int x3), some (.int x4), some (.int x5), d6, d7, some (.int x8)], [])) (S' := []) (h' := (jX f (jup g 3 ((jup (g 3) (u2.toNatClampNeg) (u1 + u0)))) n2 p pa s sa true rp t, z)) rfl).trans (jite_congr (fun _ => rfl) (fun _ => ?_))
    rfl
set_option maxRecDepth 20000 in
theorem E_h_seenFrom {D : Nat} {j : Nat} {a1 : Int32} {a2 : Int32} {a3 : Int32} {f : Nat → Int32} {g : Nat → Nat → Int32} {n2 : Nat → Nat → Int64} {p : Nat → Nat → Int32} {pa : Nat → Nat → Nat → Int32} {s : Nat → Nat → Int32} {sa : Nat → Nat → Nat → Int32} {sw : Bool} {rp : Value} {t : List jE} {z : Nat × Nat × Nat × (Nat → Int32)} (hj : j < 3) : K_h_seenFrom D j a1 a2 a3 f g n2 p pa s sa sw rp t z = jbO (K_h_stand D j a2 0 f g n2 p pa s sa sw rp t z) (jk D 8 5 ([some (.ref 43), some (.ref (49 + 6 * j)), some (.int a1), some (.int a2), some (.int a3), none, none], []) []) := by
  rcases jlt3 hj with rfl | rfl | rfl <;> cases sw
  · refine (jev_blk 4 (pc' := 4) (L' := ([some (.ref 43), some (.ref (49 + 6 * 0)), some (.int a1), some (.int a2), some (.int a3), none, none], [])) (S' := [.int 0, .int a2, .ref (49 + 6 * 0), .ref 43]) (h' := (jX f g n2 p pa s sa false rp t, z)) rfl).trans ?_
    exact jev_callb (nx := 5) (rest := []) rfl
  · refine (jev_blk 4 (pc' := 4) (L' := ([some (.ref 43), some (.ref (49 + 6 * 0)), some (.int a1), some (.int a2), some (.int a3), none, none], [])) (S' := [.int 0, .int a2, .ref (49 + 6 * 0), .ref 43]) (h' := (jX f g n2 p pa s sa true rp t, z)) rfl).trans ?_
    exact jev_callb (nx := 5) (rest := []) rfl
  · refine (jev_blk 4 (pc' := 4) (L' := ([some (.ref 43), some (.ref (49 + 6 * 1)), some (.int a1), some (.int a2), some (.int a3), none, none], [])) (S' := [.int 0, .int a2, .ref (49 + 6 * 1), .ref 43]) (h' := (jX f g n2 p pa s sa false rp t, z)) rfl).trans ?_
    exact jev_callb (nx := 5) (rest := []) rfl
  · refine (jev_blk 4 (pc' := 4) (L' := ([some (.ref 43), some (.ref (49 + 6 * 1)), some (.int a1), some (.int a2), some (.int a3), none, none], [])) (S' := [.int 0, .int a2, .ref (49 + 6 * 1), .ref 43]) (h' := (jX f g n2 p pa s sa true rp t, z)) rfl).trans ?_
    exact jev_callb (nx := 5) (rest := []) rfl
  · refine (jev_blk 4 (pc' := 4) (L' := ([some (.ref 43), some (.ref (49 + 6 * 2)), some (.int a1), some (.int a2), some (.int a3), none, none], [])) (S' := [.int 0, .int a2, .ref (49 + 6 * 2), .ref 43]) (h' := (jX f g n2 p pa s sa false rp t, z)) rfl).trans ?_
    exact jev_callb (nx := 5) (rest := []) rfl
  · refine (jev_blk 4 (pc' := 4) (L' := ([some (.ref 43), some (.ref (49 + 6 * 2)), some (.int a1), some (.int a2), some (.int a3), none, none], [])) (S' := [.int 0, .int a2, .ref (49 + 6 * 2), .ref 43]) (h' := (jX f g n2 p pa s sa true rp t, z)) rfl).trans ?_
    exact jev_callb (nx := 5) (rest := []) rfl
