-- EQUATIONS: one a block; E_ unfolds, L_ a loop's head
set_option maxRecDepth 20000 in
theorem E_h_seenFrom_5 {D : Nat} {j : Nat} {x2 : Int32} {d3 : Option Value} {x4 : Int32} {d5 : Option Value} {d6 : Option Value} {f : Nat → Int32} {g : Nat → Nat → Int32} {n2 : Nat → Nat → Int64} {p : Nat → Nat → Int32} {pa : Nat → Nat → Nat → Int32} {s : Nat → Nat → Int32} {sa : Nat → Nat → Nat → Int32} {sw : Bool} {rp : Value} {t : List jE} {z : Nat × Nat × Nat × (Nat → Int32)} (hj : j < 3) : jev D 8 5 ([some (.ref 43), some (.ref (49 + 6 * j)), some (.int x2), d3, some (.int x4), d5, d6], []) [] (jX f g n2 p pa s sa sw rp t, z) = K_h_seenFrom_9 D j x2 d3 x4 0 0 f g n2 p pa s sa sw rp t z := by
  rcases jlt3 hj with rfl | rfl | rfl <;> cases sw
  · exact jev_blk 4 rfl
  · exact jev_blk 4 rfl
  · exact jev_blk 4 rfl
  · exact jev_blk 4 rfl
  · exact jev_blk 4 rfl
  · exact jev_blk 4 rfl
set_option maxRecDepth 20000 in
theorem L_h_seenFrom_9 {D : Nat} {j : Nat} {x2 : Int32} {d3 : Option Value} {x4 : Int32} {x5 : Int32} {x6 : Int32} {f : Nat → Int32} {g : Nat → Nat → Int32} {n2 : Nat → Nat → Int64} {p : Nat → Nat → Int32} {pa : Nat → Nat → Nat → Int32} {s : Nat → Nat → Int32} {sa : Nat → Nat → Nat → Int32} {sw : Bool} {rp : Value} {t : List jE} {z : Nat × Nat × Nat × (Nat → Int32)} (hj : j < 3) : K_h_seenFrom_9 D j x2 d3 x4 x5 x6 f g n2 p pa s sa sw rp t z = jbO (K_p_cells D sw f g n2 p pa s sa sw rp t z) (jk D 8 13 ([some (.ref 43), some (.ref (49 + 6 * j)), some (.int x2), d3, some (.int x4), some (.int x5), some (.int x6)], []) [.int x6]) := by
  rcases jlt3 hj with rfl | rfl | rfl <;> cases sw
  · refine (jev_blk 3 (pc' := 12) (L' := ([some (.ref 43), some (.ref (49 + 6 * 0)), some (.int x2), d3, some (.int x4), some (.int x5), some (.int x6)], [])) (S' := [.ref (jpl false), .int x6]) (h' := (jX f g n2 p pa s sa false rp t, z)) rfl).trans ?_
    exact jev_callb (nx := 13) (rest := [.int x6]) rfl
  · refine (jev_blk 3 (pc' := 12) (L' := ([some (.ref 43), some (.ref (49 + 6 * 0)), some (.int x2), d3, some (.int x4), some (.int x5), some (.int x6)], [])) (S' := [.ref (jpl true), .int x6]) (h' := (jX f g n2 p pa s sa true rp t, z)) rfl).trans ?_
    exact jev_callb (nx := 13) (rest := [.int x6]) rfl
  · refine (jev_blk 3 (pc' := 12) (L' := ([some (.ref 43), some (.ref (49 + 6 * 1)), some (.int x2), d3, some (.int x4), some (.int x5), some (.int x6)], [])) (S' := [.ref (jpl false), .int x6]) (h' := (jX f g n2 p pa s sa false rp t, z)) rfl).trans ?_
    exact jev_callb (nx := 13) (rest := [.int x6]) rfl
  · refine (jev_blk 3 (pc' := 12) (L' := ([some (.ref 43), some (.ref (49 + 6 * 1)), some (.int x2), d3, some (.int x4), some (.int x5), some (.int x6)], [])) (S' := [.ref (jpl true), .int x6]) (h' := (jX f g n2 p pa s sa true rp t, z)) rfl).trans ?_
    exact jev_callb (nx := 13) (rest := [.int x6]) rfl
  · refine (jev_blk 3 (pc' := 12) (L' := ([some (.ref 43), some (.ref (49 + 6 * 2)), some (.int x2), d3, some (.int x4), some (.int x5), some (.int x6)], [])) (S' := [.ref (jpl false), .int x6]) (h' := (jX f g n2 p pa s sa false rp t, z)) rfl).trans ?_
    exact jev_callb (nx := 13) (rest := [.int x6]) rfl
  · refine (jev_blk 3 (pc' := 12) (L' := ([some (.ref 43), some (.ref (49 + 6 * 2)), some (.int x2), d3, some (.int x4), some (.int x5), some (.int x6)], [])) (S' := [.ref (jpl true), .int x6]) (h' := (jX f g n2 p pa s sa true rp t, z)) rfl).trans ?_
    exact jev_callb (nx := 13) (rest := [.int x6]) rfl
set_option maxRecDepth 20000 in
theorem E_h_seenFrom_13 {D : Nat} {j : Nat} {x2 : Int32} {d3 : Option Value} {x4 : Int32} {x5 : Int32} {x6 : Int32} {u0 : Int32} {u1 : Int32} {f : Nat → Int32} {g : Nat → Nat → Int32} {n2 : Nat → Nat → Int64} {p : Nat → Nat → Int32} {pa : Nat → Nat → Nat → Int32} {s : Nat → Nat → Int32} {sa : Nat → Nat → Nat → Int32} {sw : Bool} {rp : Value} {t : List jE} {z : Nat × Nat × Nat × (Nat → Int32)} (hj : j < 3) : jev D 8 13 ([some (.ref 43), some (.ref (49 + 6 * j)), some (.int x2), d3, some (.int x4), some (.int x5), some (.int x6)], []) [.int u0, .int u1] (jX f g n2 p pa s sa sw rp t, z) = if u1 < u0 then (if ((x4 >>> (x6 &&& 31)) &&& 1) = 0 then (K_h_seenFrom_35 D j x2 d3 x4 x5 x6 f g n2 p pa s sa sw rp t z) else (if jout x6 30 then none else (jbO (K_h_looks D x2 x6 (sa j 0 x6.toNatClampNeg) f g n2 p pa s sa sw rp t z) (jk D 8 28 ([some (.ref 43), some (.ref (49 + 6 * j)), some (.int x2), d3, some (.int x4), some (.int x5), some (.int x6)], []) [])))) else (some (.inl (some (.int x5)), (jX f g n2 p pa s sa sw rp t, z))) := by
  rcases jlt3 hj with rfl | rfl | rfl <;> cases sw
  · refine (jev_blk 1 (pc' := if u1 < u0 then 14 else 37) (L' := ([some (.ref 43), some (.ref (49 + 6 * 0)), some (.int x2), d3, some (.int x4), some (.int x5), some (.int x6)], [])) (S' := []) (h' := (jX f g n2 p pa s sa false rp t, z)) rfl).trans (jev_ite.trans (jite_congr (fun _ => ?_) (fun _ => ?_)))
    · refine (jev_blk 6 (pc' := if ((x4 >>> (x6 &&& 31)) &&& 1) = 0 then 35 else 20) (L' := ([some (.ref 43), some (.ref (49 + 6 * 0)), some (.int x2), d3, some (.int x4), some (.int x5), some (.int x6)], [])) (S' := []) (h' := (jX f g n2 p pa s sa false rp t, z)) rfl).trans (jev_ite.trans (jite_congr (fun _ => ?_) (fun _ => ?_)))
      · rfl
      · refine (jev_blk 6 (pc' := 26) (L' := ([some (.ref 43), some (.ref (49 + 6 * 0)), some (.int x2), d3, some (.int x4), some (.int x5), some (.int x6)], [])) (S' := [.int x6, .ref (50 + 6 * 0 + 0), .int x6, .int x2, .ref 43]) (h' := (jX f g n2 p pa s sa false rp t, z)) rfl).trans ?_
        refine (jev_grd (q := jout x6 30) (pc' := 27) (L' := ([some (.ref 43), some (.ref (49 + 6 * 0)), some (.int x2), d3, some (.int x4), some (.int x5), some (.int x6)], [])) (S' := [.int (sa 0 0 x6.toNatClampNeg), .int x6, .int x2, .ref 43]) (h' := (jX f g n2 p pa s sa false rp t, z)) rfl).trans (jite_congr (fun _ => rfl) (fun _ => ?_))
        exact jev_callb (nx := 28) (rest := []) rfl
    · refine (jev_blk 1 (pc' := 38) (L' := ([some (.ref 43), some (.ref (49 + 6 * 0)), some (.int x2), d3, some (.int x4), some (.int x5), some (.int x6)], [])) (S' := [.int x5]) (h' := (jX f g n2 p pa s sa false rp t, z)) rfl).trans ?_
      exact jev_fin rfl
  · refine (jev_blk 1 (pc' := if u1 < u0 then 14 else 37) (L' := ([some (.ref 43), some (.ref (49 + 6 * 0)), some (.int x2), d3, some (.int x4), some (.int x5), some (.int x6)], [])) (S' := []) (h' := (jX f g n2 p pa s sa true rp t, z)) rfl).trans (jev_ite.trans (jite_congr (fun _ => ?_) (fun _ => ?_)))
    · refine (jev_blk 6 (pc' := if ((x4 >>> (x6 &&& 31)) &&& 1) = 0 then 35 else 20) (L' := ([some (.ref 43), some (.ref (49 + 6 * 0)), some (.int x2), d3, some (.int x4), some (.int x5), some (.int x6)], [])) (S' := []) (h' := (jX f g n2 p pa s sa true rp t, z)) rfl).trans (jev_ite.trans (jite_congr (fun _ => ?_) (fun _ => ?_)))
      · rfl
      · refine (jev_blk 6 (pc' := 26) (L' := ([some (.ref 43), some (.ref (49 + 6 * 0)), some (.int x2), d3, some (.int x4), some (.int x5), some (.int x6)], [])) (S' := [.int x6, .ref (50 + 6 * 0 + 0), .int x6, .int x2, .ref 43]) (h' := (jX f g n2 p pa s sa true rp t, z)) rfl).trans ?_
        refine (jev_grd (q := jout x6 30) (pc' := 27) (L' := ([some (.ref 43), some (.ref (49 + 6 * 0)), some (.int x2), d3, some (.int x4), some (.int x5), some (.int x6)], [])) (S' := [.int (sa 0 0 x6.toNatClampNeg), .int x6, .int x2, .ref 43]) (h' := (jX f g n2 p pa s sa true rp t, z)) rfl).trans (jite_congr (fun _ => rfl) (fun _ => ?_))
        exact jev_callb (nx := 28) (rest := []) rfl
    · refine (jev_blk 1 (pc' := 38) (L' := ([some (.ref 43), some (.ref (49 + 6 * 0)), some (.int x2), d3, some (.int x4), some (.int x5), some (.int x6)], [])) (S' := [.int x5]) (h' := (jX f g n2 p pa s sa true rp t, z)) rfl).trans ?_
      exact jev_fin rfl
  · refine (jev_blk 1 (pc' := if u1 < u0 then 14 else 37) (L' := ([some (.ref 43), some (.ref (49 + 6 * 1)), some (.int x2), d3, some (.int x4), some (.int x5), some (.int x6)], [])) (S' := []) (h' := (jX f g n2 p pa s sa false rp t, z)) rfl).trans (jev_ite.trans (jite_congr (fun _ => ?_) (fun _ => ?_)))
    · refine (jev_blk 6 (pc' := if ((x4 >>> (x6 &&& 31)) &&& 1) = 0 then 35 else 20) (L' := ([some (.ref 43), some (.ref (49 + 6 * 1)), some (.int x2), d3, some (.int x4), some (.int x5), some (.int x6)], [])) (S' := []) (h' := (jX f g n2 p pa s sa false rp t, z)) rfl).trans (jev_ite.trans (jite_congr (fun _ => ?_) (fun _ => ?_)))
      · rfl
      · refine (jev_blk 6 (pc' := 26) (L' := ([some (.ref 43), some (.ref (49 + 6 * 1)), some (.int x2), d3, some (.int x4), some (.int x5), some (.int x6)], [])) (S' := [.int x6, .ref (50 + 6 * 1 + 0), .int x6, .int x2, .ref 43]) (h' := (jX f g n2 p pa s sa false rp t, z)) rfl).trans ?_
        refine (jev_grd (q := jout x6 30) (pc' := 27) (L' := ([some (.ref 43), some (.ref (49 + 6 * 1)), some (.int x2), d3, some (.int x4), some (.int x5), some (.int x6)], [])) (S' := [.int (sa 1 0 x6.toNatClampNeg), .int x6, .int x2, .ref 43]) (h' := (jX f g n2 p pa s sa false rp t, z)) rfl).trans (jite_congr (fun _ => rfl) (fun _ => ?_))
        exact jev_callb (nx := 28) (rest := []) rfl
    · refine (jev_blk 1 (pc' := 38) (L' := ([some (.ref 43), some (.ref (49 + 6 * 1)), some (.int x2), d3, some (.int x4), some (.int x5), some (.int x6)], [])) (S' := [.int x5]) (h' := (jX f g n2 p pa s sa false rp t, z)) rfl).trans ?_
      exact jev_fin rfl
  · refine (jev_blk 1 (pc' := if u1 < u0 then 14 else 37) (L' := ([some (.ref 43), some (.ref (49 + 6 * 1)), some (.int x2), d3, some (.int x4), some (.int x5), some (.int x6)], [])) (S' := []) (h' := (jX f g n2 p pa s sa true rp t, z)) rfl).trans (jev_ite.trans (jite_congr (fun _ => ?_) (fun _ => ?_)))
    · refine (jev_blk 6 (pc' := if ((x4 >>> (x6 &&& 31)) &&& 1) = 0 then 35 else 20) (L' := ([some (.ref 43), some (.ref (49 + 6 * 1)), some (.int x2), d3, some (.int x4), some (.int x5), some (.int x6)], [])) (S' := []) (h' := (jX f g n2 p pa s sa true rp t, z)) rfl).trans (jev_ite.trans (jite_congr (fun _ => ?_) (fun _ => ?_)))
      · rfl
      · refine (jev_blk 6 (pc' := 26) (L' := ([some (.ref 43), some (.ref (49 + 6 * 1)), some (.int x2), d3, some (.int x4), some (.int x5), some (.int x6)], [])) (S' := [.int x6, .ref (50 + 6 * 1 + 0), .int x6, .int x2, .ref 43]) (h' := (jX f g n2 p pa s sa true rp t, z)) rfl).trans ?_
        refine (jev_grd (q := jout x6 30) (pc' := 27) (L' := ([some (.ref 43), some (.ref (49 + 6 * 1)), some (.int x2), d3, some (.int x4), some (.int x5), some (.int x6)], [])) (S' := [.int (sa 1 0 x6.toNatClampNeg), .int x6, .int x2, .ref 43]) (h' := (jX f g n2 p pa s sa true rp t, z)) rfl).trans (jite_congr (fun _ => rfl) (fun _ => ?_))
        exact jev_callb (nx := 28) (rest := []) rfl
    · refine (jev_blk 1 (pc' := 38) (L' := ([some (.ref 43), some (.ref (49 + 6 * 1)), some (.int x2), d3, some (.int x4), some (.int x5), some (.int x6)], [])) (S' := [.int x5]) (h' := (jX f g n2 p pa s sa true rp t, z)) rfl).trans ?_
      exact jev_fin rfl
  · refine (jev_blk 1 (pc' := if u1 < u0 then 14 else 37) (L' := ([some (.ref 43), some (.ref (49 + 6 * 2)), some (.int x2), d3, some (.int x4), some (.int x5), some (.int x6)], [])) (S' := []) (h' := (jX f g n2 p pa s sa false rp t, z)) rfl).trans (jev_ite.trans (jite_congr (fun _ => ?_) (fun _ => ?_)))
    · refine (jev_blk 6 (pc' := if ((x4 >>> (x6 &&& 31)) &&& 1) = 0 then 35 else 20) (L' := ([some (.ref 43), some (.ref (49 + 6 * 2)), some (.int x2), d3, some (.int x4), some (.int x5), some (.int x6)], [])) (S' := []) (h' := (jX f g n2 p pa s sa false rp t, z)) rfl).trans (jev_ite.trans (jite_congr (fun _ => ?_) (fun _ => ?_)))
      · rfl
      · refine (jev_blk 6 (pc' := 26) (L' := ([some (.ref 43), some (.ref (49 + 6 * 2)), some (.int x2), d3, some (.int x4), some (.int x5), some (.int x6)], [])) (S' := [.int x6, .ref (50 + 6 * 2 + 0), .int x6, .int x2, .ref 43]) (h' := (jX f g n2 p pa s sa false rp t, z)) rfl).trans ?_
        refine (jev_grd (q := jout x6 30) (pc' := 27) (L' := ([some (.ref 43), some (.ref (49 + 6 * 2)), some (.int x2), d3, some (.int x4), some (.int x5), some (.int x6)], [])) (S' := [.int (sa 2 0 x6.toNatClampNeg), .int x6, .int x2, .ref 43]) (h' := (jX f g n2 p pa s sa false rp t, z)) rfl).trans (jite_congr (fun _ => rfl) (fun _ => ?_))
        exact jev_callb (nx := 28) (rest := []) rfl
    · refine (jev_blk 1 (pc' := 38) (L' := ([some (.ref 43), some (.ref (49 + 6 * 2)), some (.int x2), d3, some (.int x4), some (.int x5), some (.int x6)], [])) (S' := [.int x5]) (h' := (jX f g n2 p pa s sa false rp t, z)) rfl).trans ?_
      exact jev_fin rfl
  · refine (jev_blk 1 (pc' := if u1 < u0 then 14 else 37) (L' := ([some (.ref 43), some (.ref (49 + 6 * 2)), some (.int x2), d3, some (.int x4), some (.int x5), some (.int x6)], [])) (S' := []) (h' := (jX f g n2 p pa s sa true rp t, z)) rfl).trans (jev_ite.trans (jite_congr (fun _ => ?_) (fun _ => ?_)))
    · refine (jev_blk 6 (pc' := if ((x4 >>> (x6 &&& 31)) &&& 1) = 0 then 35 else 20) (L' := ([some (.ref 43), some (.ref (49 + 6 * 2)), some (.int x2), d3, some (.int x4), some (.int x5), some (.int x6)], [])) (S' := []) (h' := (jX f g n2 p pa s sa true rp t, z)) rfl).trans (jev_ite.trans (jite_congr (fun _ => ?_) (fun _ => ?_)))
      · rfl
      · refine (jev_blk 6 (pc' := 26) (L' := ([some (.ref 43), some (.ref (49 + 6 * 2)), some (.int x2), d3, some (.int x4), some (.int x5), some (.int x6)], [])) (S' := [.int x6, .ref (50 + 6 * 2 + 0), .int x6, .int x2, .ref 43]) (h' := (jX f g n2 p pa s sa true rp t, z)) rfl).trans ?_
        refine (jev_grd (q := jout x6 30) (pc' := 27) (L' := ([some (.ref 43), some (.ref (49 + 6 * 2)), some (.int x2), d3, some (.int x4), some (.int x5), some (.int x6)], [])) (S' := [.int (sa 2 0 x6.toNatClampNeg), .int x6, .int x2, .ref 43]) (h' := (jX f g n2 p pa s sa true rp t, z)) rfl).trans (jite_congr (fun _ => rfl) (fun _ => ?_))
        exact jev_callb (nx := 28) (rest := []) rfl
    · refine (jev_blk 1 (pc' := 38) (L' := ([some (.ref 43), some (.ref (49 + 6 * 2)), some (.int x2), d3, some (.int x4), some (.int x5), some (.int x6)], [])) (S' := [.int x5]) (h' := (jX f g n2 p pa s sa true rp t, z)) rfl).trans ?_
      exact jev_fin rfl
set_option maxRecDepth 20000 in
theorem E_h_seenFrom_35 {D : Nat} {j : Nat} {x2 : Int32} {d3 : Option Value} {x4 : Int32} {x5 : Int32} {x6 : Int32} {f : Nat → Int32} {g : Nat → Nat → Int32} {n2 : Nat → Nat → Int64} {p : Nat → Nat → Int32} {pa : Nat → Nat → Nat → Int32} {s : Nat → Nat → Int32} {sa : Nat → Nat → Nat → Int32} {sw : Bool} {rp : Value} {t : List jE} {z : Nat × Nat × Nat × (Nat → Int32)} (hj : j < 3) : K_h_seenFrom_35 D j x2 d3 x4 x5 x6 f g n2 p pa s sa sw rp t z = K_h_seenFrom_9 D j x2 d3 x4 x5 (x6 + 1) f g n2 p pa s sa sw rp t z := by
  rcases jlt3 hj with rfl | rfl | rfl <;> cases sw
  · exact jev_blk 2 rfl
  · exact jev_blk 2 rfl
  · exact jev_blk 2 rfl
  · exact jev_blk 2 rfl
  · exact jev_blk 2 rfl
  · exact jev_blk 2 rfl
set_option maxRecDepth 20000 in
theorem E_h_seenFrom_28 {D : Nat} {j : Nat} {x2 : Int32} {d3 : Option Value} {x4 : Int32} {x5 : Int32} {x6 : Int32} {u0 : Int32} {f : Nat → Int32} {g : Nat → Nat → Int32} {n2 : Nat → Nat → Int64} {p : Nat → Nat → Int32} {pa : Nat → Nat → Nat → Int32} {s : Nat → Nat → Int32} {sa : Nat → Nat → Nat → Int32} {sw : Bool} {rp : Value} {t : List jE} {z : Nat × Nat × Nat × (Nat → Int32)} (hj : j < 3) : jev D 8 28 ([some (.ref 43), some (.ref (49 + 6 * j)), some (.int x2), d3, some (.int x4), some (.int x5), some (.int x6)], []) [.int u0] (jX f g n2 p pa s sa sw rp t, z) = if u0 = 0 then (K_h_seenFrom_35 D j x2 d3 x4 x5 x6 f g n2 p pa s sa sw rp t z) else (K_h_seenFrom_35 D j x2 d3 x4 (x5 ||| (1 <<< (x6 &&& 31))) x6 f g n2 p pa s sa sw rp t z) := by
  rcases jlt3 hj with rfl | rfl | rfl <;> cases sw
  · refine (jev_blk 1 (pc' := if u0 = 0 then 35 else 29) (L' := ([some (.ref 43), some (.ref (49 + 6 * 0)), some (.int x2), d3, some (.int x4), some (.int x5), some (.int x6)], [])) (S' := []) (h' := (jX f g n2 p pa s sa false rp t, z)) rfl).trans (jev_ite.trans (jite_congr (fun _ => ?_) (fun _ => ?_)))
    · rfl
    · exact jev_blk 6 rfl
  · refine (jev_blk 1 (pc' := if u0 = 0 then 35 else 29) (L' := ([some (.ref 43), some (.ref (49 + 6 * 0)), some (.int x2), d3, some (.int x4), some (.int x5), some (.int x6)], [])) (S' := []) (h' := (jX f g n2 p pa s sa true rp t, z)) rfl).trans (jev_ite.trans (jite_congr (fun _ => ?_) (fun _ => ?_)))
    · rfl
    · exact jev_blk 6 rfl
  · refine (jev_blk 1 (pc' := if u0 = 0 then 35 else 29) (L' := ([some (.ref 43), some (.ref (49 + 6 * 1)), some (.int x2), d3, some (.int x4), some (.int x5), some (.int x6)], [])) (S' := []) (h' := (jX f g n2 p pa s sa false rp t, z)) rfl).trans (jev_ite.trans (jite_congr (fun _ => ?_) (fun _ => ?_)))
    · rfl
    · exact jev_blk 6 rfl
  · refine (jev_blk 1 (pc' := if u0 = 0 then 35 else 29) (L' := ([some (.ref 43), some (.ref (49 + 6 * 1)), some (.int x2), d3, some (.int x4), some (.int x5), some (.int x6)], [])) (S' := []) (h' := (jX f g n2 p pa s sa true rp t, z)) rfl).trans (jev_ite.trans (jite_congr (fun _ => ?_) (fun _ => ?_)))
    · rfl
    · exact jev_blk 6 rfl
  · refine (jev_blk 1 (pc' := if u0 = 0 then 35 else 29) (L' := ([some (.ref 43), some (.ref (49 + 6 * 2)), some (.int x2), d3, some (.int x4), some (.int x5), some (.int x6)], [])) (S' := []) (h' := (jX f g n2 p pa s sa false rp t, z)) rfl).trans (jev_ite.trans (jite_congr (fun _ => ?_) (fun _ => ?_)))
    · rfl
    · exact jev_blk 6 rfl
  · refine (jev_blk 1 (pc' := if u0 = 0 then 35 else 29) (L' := ([some (.ref 43), some (.ref (49 + 6 * 2)), some (.int x2), d3, some (.int x4), some (.int x5), some (.int x6)], [])) (S' := []) (h' := (jX f g n2 p pa s sa true rp t, z)) rfl).trans (jev_ite.trans (jite_congr (fun _ => ?_) (fun _ => ?_)))
    · rfl
    · exact jev_blk 6 rfl
set_option maxRecDepth 20000 in
theorem E_h_seeWorth {D : Nat} {j : Nat} {a1 : Int32} {a2 : Int32} {f : Nat → Int32} {g : Nat → Nat → Int32} {n2 : Nat → Nat → Int64} {p : Nat → Nat → Int32} {pa : Nat → Nat → Nat → Int32} {s : Nat → Nat → Int32} {sa : Nat → Nat → Nat → Int32} {sw : Bool} {rp : Value} {t : List jE} {z : Nat × Nat × Nat × (Nat → Int32)} (hj : j < 3) : K_h_seeWorth D j a1 a2 f g n2 p pa s sa sw rp t z = jbO (K_h_sightOf D a1 f g n2 p pa s sa sw rp t z) (jk D 9 5 ([some (.ref 43), some (.ref (49 + 6 * j)), some (.int a1), some (.int a2)], []) [.ref (49 + 6 * j), .ref 43]) := by
  rcases jlt3 hj with rfl | rfl | rfl <;> cases sw
  · refine (jev_blk 4 (pc' := 4) (L' := ([some (.ref 43), some (.ref (49 + 6 * 0)), some (.int a1), some (.int a2)], [])) (S' := [.int a1, .ref 43, .ref (49 + 6 * 0), .ref 43]) (h' := (jX f g n2 p pa s sa false rp t, z)) rfl).trans ?_
    exact jev_callb (nx := 5) (rest := [.ref (49 + 6 * 0), .ref 43]) rfl
  · refine (jev_blk 4 (pc' := 4) (L' := ([some (.ref 43), some (.ref (49 + 6 * 0)), some (.int a1), some (.int a2)], [])) (S' := [.int a1, .ref 43, .ref (49 + 6 * 0), .ref 43]) (h' := (jX f g n2 p pa s sa true rp t, z)) rfl).trans ?_
    exact jev_callb (nx := 5) (rest := [.ref (49 + 6 * 0), .ref 43]) rfl
  · refine (jev_blk 4 (pc' := 4) (L' := ([some (.ref 43), some (.ref (49 + 6 * 1)), some (.int a1), some (.int a2)], [])) (S' := [.int a1, .ref 43, .ref (49 + 6 * 1), .ref 43]) (h' := (jX f g n2 p pa s sa false rp t, z)) rfl).trans ?_
    exact jev_callb (nx := 5) (rest := [.ref (49 + 6 * 1), .ref 43]) rfl
  · refine (jev_blk 4 (pc' := 4) (L' := ([some (.ref 43), some (.ref (49 + 6 * 1)), some (.int a1), some (.int a2)], [])) (S' := [.int a1, .ref 43, .ref (49 + 6 * 1), .ref 43]) (h' := (jX f g n2 p pa s sa true rp t, z)) rfl).trans ?_
    exact jev_callb (nx := 5) (rest := [.ref (49 + 6 * 1), .ref 43]) rfl
  · refine (jev_blk 4 (pc' := 4) (L' := ([some (.ref 43), some (.ref (49 + 6 * 2)), some (.int a1), some (.int a2)], [])) (S' := [.int a1, .ref 43, .ref (49 + 6 * 2), .ref 43]) (h' := (jX f g n2 p pa s sa false rp t, z)) rfl).trans ?_
    exact jev_callb (nx := 5) (rest := [.ref (49 + 6 * 2), .ref 43]) rfl
  · refine (jev_blk 4 (pc' := 4) (L' := ([some (.ref 43), some (.ref (49 + 6 * 2)), some (.int a1), some (.int a2)], [])) (S' := [.int a1, .ref 43, .ref (49 + 6 * 2), .ref 43]) (h' := (jX f g n2 p pa s sa true rp t, z)) rfl).trans ?_
    exact jev_callb (nx := 5) (rest := [.ref (49 + 6 * 2), .ref 43]) rfl
set_option maxRecDepth 20000 in
theorem E_h_seeWorth_5 {D : Nat} {j : Nat} {x2 : Int32} {x3 : Int32} {u0 : Int32} {f : Nat → Int32} {g : Nat → Nat → Int32} {n2 : Nat → Nat → Int64} {p : Nat → Nat → Int32} {pa : Nat → Nat → Nat → Int32} {s : Nat → Nat → Int32} {sa : Nat → Nat → Nat → Int32} {sw : Bool} {rp : Value} {t : List jE} {z : Nat × Nat × Nat × (Nat → Int32)} (hj : j < 3) : jev D 9 5 ([some (.ref 43), some (.ref (49 + 6 * j)), some (.int x2), some (.int x3)], []) [.int u0, .ref (49 + 6 * j), .ref 43] (jX f g n2 p pa s sa sw rp t, z) = if jout x2 6 then none else (jbO (K_h_stand D j u0 (sa j 3 x2.toNatClampNeg) f g n2 p pa s sa sw rp t z) (jk D 9 10 ([some (.ref 43), some (.ref (49 + 6 * j)), some (.int x2), some (.int x3)], []) [])) := by
  rcases jlt3 hj with rfl | rfl | rfl <;> cases sw
  · refine (jev_blk 3 (pc' := 8) (L' := ([some (.ref 43), some (.ref (49 + 6 * 0)), some (.int x2), some (.int x3)], [])) (S' := [.int x2, .ref (50 + 6 * 0 + 3), .int u0, .ref (49 + 6 * 0), .ref 43]) (h' := (jX f g n2 p pa s sa false rp t, z)) rfl).trans ?_
    refine (jev_grd (q := jout x2 6) (pc' := 9) (L' := ([some (.ref 43), some (.ref (49 + 6 * 0)), some (.int x2), some (.int x3)], [])) (S' := [.int (sa 0 3 x2.toNatClampNeg), .int u0, .ref (49 + 6 * 0), .ref 43]) (h' := (jX f g n2 p pa s sa false rp t, z)) rfl).trans (jite_congr (fun _ => rfl) (fun _ => ?_))
    exact jev_callb (nx := 10) (rest := []) rfl
  · refine (jev_blk 3 (pc' := 8) (L' := ([some (.ref 43), some (.ref (49 + 6 * 0)), some (.int x2), some (.int x3)], [])) (S' := [.int x2, .ref (50 + 6 * 0 + 3), .int u0, .ref (49 + 6 * 0), .ref 43]) (h' := (jX f g n2 p pa s sa true rp t, z)) rfl).trans ?_
    refine (jev_grd (q := jout x2 6) (pc' := 9) (L' := ([some (.ref 43), some (.ref (49 + 6 * 0)), some (.int x2), some (.int x3)], [])) (S' := [.int (sa 0 3 x2.toNatClampNeg), .int u0, .ref (49 + 6 * 0), .ref 43]) (h' := (jX f g n2 p pa s sa true rp t, z)) rfl).trans (jite_congr (fun _ => rfl) (fun _ => ?_))
    exact jev_callb (nx := 10) (rest := []) rfl
  · refine (jev_blk 3 (pc' := 8) (L' := ([some (.ref 43), some (.ref (49 + 6 * 1)), some (.int x2), some (.int x3)], [])) (S' := [.int x2, .ref (50 + 6 * 1 + 3), .int u0, .ref (49 + 6 * 1), .ref 43]) (h' := (jX f g n2 p pa s sa false rp t, z)) rfl).trans ?_
    refine (jev_grd (q := jout x2 6) (pc' := 9) (L' := ([some (.ref 43), some (.ref (49 + 6 * 1)), some (.int x2), some (.int x3)], [])) (S' := [.int (sa 1 3 x2.toNatClampNeg), .int u0, .ref (49 + 6 * 1), .ref 43]) (h' := (jX f g n2 p pa s sa false rp t, z)) rfl).trans (jite_congr (fun _ => rfl) (fun _ => ?_))
    exact jev_callb (nx := 10) (rest := []) rfl
  · refine (jev_blk 3 (pc' := 8) (L' := ([some (.ref 43), some (.ref (49 + 6 * 1)), some (.int x2), some (.int x3)], [])) (S' := [.int x2, .ref (50 + 6 * 1 + 3), .int u0, .ref (49 + 6 * 1), .ref 43]) (h' := (jX f g n2 p pa s sa true rp t, z)) rfl).trans ?_
    refine (jev_grd (q := jout x2 6) (pc' := 9) (L' := ([some (.ref 43), some (.ref (49 + 6 * 1)), some (.int x2), some (.int x3)], [])) (S' := [.int (sa 1 3 x2.toNatClampNeg), .int u0, .ref (49 + 6 * 1), .ref 43]) (h' := (jX f g n2 p pa s sa true rp t, z)) rfl).trans (jite_congr (fun _ => rfl) (fun _ => ?_))
    exact jev_callb (nx := 10) (rest := []) rfl
  · refine (jev_blk 3 (pc' := 8) (L' := ([some (.ref 43), some (.ref (49 + 6 * 2)), some (.int x2), some (.int x3)], [])) (S' := [.int x2, .ref (50 + 6 * 2 + 3), .int u0, .ref (49 + 6 * 2), .ref 43]) (h' := (jX f g n2 p pa s sa false rp t, z)) rfl).trans ?_
    refine (jev_grd (q := jout x2 6) (pc' := 9) (L' := ([some (.ref 43), some (.ref (49 + 6 * 2)), some (.int x2), some (.int x3)], [])) (S' := [.int (sa 2 3 x2.toNatClampNeg), .int u0, .ref (49 + 6 * 2), .ref 43]) (h' := (jX f g n2 p pa s sa false rp t, z)) rfl).trans (jite_congr (fun _ => rfl) (fun _ => ?_))
    exact jev_callb (nx := 10) (rest := []) rfl
  · refine (jev_blk 3 (pc' := 8) (L' := ([some (.ref 43), some (.ref (49 + 6 * 2)), some (.int x2), some (.int x3)], [])) (S' := [.int x2, .ref (50 + 6 * 2 + 3), .int u0, .ref (49 + 6 * 2), .ref 43]) (h' := (jX f g n2 p pa s sa true rp t, z)) rfl).trans ?_
    refine (jev_grd (q := jout x2 6) (pc' := 9) (L' := ([some (.ref 43), some (.ref (49 + 6 * 2)), some (.int x2), some (.int x3)], [])) (S' := [.int (sa 2 3 x2.toNatClampNeg), .int u0, .ref (49 + 6 * 2), .ref 43]) (h' := (jX f g n2 p pa s sa true rp t, z)) rfl).trans (jite_congr (fun _ => rfl) (fun _ => ?_))
    exact jev_callb (nx := 10) (rest := []) rfl
set_option maxRecDepth 20000 in
theorem E_h_seeWorth_10 {D : Nat} {j : Nat} {x2 : Int32} {x3 : Int32} {f : Nat → Int32} {g : Nat → Nat → Int32} {n2 : Nat → Nat → Int64} {p : Nat → Nat → Int32} {pa : Nat → Nat → Nat → Int32} {s : Nat → Nat → Int32} {sa : Nat → Nat → Nat → Int32} {sw : Bool} {rp : Value} {t : List jE} {z : Nat × Nat × Nat × (Nat → Int32)} (hj : j < 3) : jev D 9 10 ([some (.ref 43), some (.ref (49 + 6 * j)), some (.int x2), some (.int x3)], []) [] (jX f g n2 p pa s sa sw rp t, z) = if jout x2 6 then none else (jbO (K_p_distance D sw (pa (jq sw) 2 x2.toNatClampNeg) x3 f g n2 p pa s sa sw rp t z) (jk D 9 22 ([some (.ref 43), some (.ref (49 + 6 * j)), some (.int x2), some (.int x3)], []) [.int 1, .ref 46])) := by
  rcases jlt3 hj with rfl | rfl | rfl <;> cases sw
  · refine (jev_blk 9 (pc' := 19) (L' := ([some (.ref 43), some (.ref (49 + 6 * 0)), some (.int x2), some (.int x3)], [])) (S' := [.int x2, .ref ((jpl false) + 3), .ref (jpl false), .int 1, .ref 46]) (h' := (jX f g n2 p pa s sa false rp t, z)) rfl).trans ?_
    refine (jev_grd (q := jout x2 6) (pc' := 20) (L' := ([some (.ref 43), some (.ref (49 + 6 * 0)), some (.int x2), some (.int x3)], [])) (S' := [.int (pa (jq false) 2 x2.toNatClampNeg), .ref (jpl false), .int 1, .ref 46]) (h' := (jX f g n2 p pa s sa false rp t, z)) rfl).trans (jite_congr (fun _ => rfl) (fun _ => ?_))
    refine (jev_blk 1 (pc' := 21) (L' := ([some (.ref 43), some (.ref (49 + 6 * 0)), some (.int x2), some (.int x3)], [])) (S' := [.int x3, .int (pa (jq false) 2 x2.toNatClampNeg), .ref (jpl false), .int 1, .ref 46]) (h' := (jX f g n2 p pa s sa false rp t, z)) rfl).trans ?_
    exact jev_callb (nx := 22) (rest := [.int 1, .ref 46]) rfl
  · refine (jev_blk 9 (pc' := 19) (L' := ([some (.ref 43), some (.ref (49 + 6 * 0)), some (.int x2), some (.int x3)], [])) (S' := [.int x2, .ref ((jpl true) + 3), .ref (jpl true), .int 1, .ref 46]) (h' := (jX f g n2 p pa s sa true rp t, z)) rfl).trans ?_
    refine (jev_grd (q := jout x2 6) (pc' := 20) (L' := ([some (.ref 43), some (.ref (49 + 6 * 0)), some (.int x2), some (.int x3)], [])) (S' := [.int (pa (jq true) 2 x2.toNatClampNeg), .ref (jpl true), .int 1, .ref 46]) (h' := (jX f g n2 p pa s sa true rp t, z)) rfl).trans (jite_congr (fun _ => rfl) (fun _ => ?_))
    refine (jev_blk 1 (pc' := 21) (L' := ([some (.ref 43), some (.ref (49 + 6 * 0)), some (.int x2), some (.int x3)], [])) (S' := [.int x3, .int (pa (jq true) 2 x2.toNatClampNeg), .ref (jpl true), .int 1, .ref 46]) (h' := (jX f g n2 p pa s sa true rp t, z)) rfl).trans ?_
    exact jev_callb (nx := 22) (rest := [.int 1, .ref 46]) rfl
  · refine (jev_blk 9 (pc' := 19) (L' := ([some (.ref 43), some (.ref (49 + 6 * 1)), some (.int x2), some (.int x3)], [])) (S' := [.int x2, .ref ((jpl false) + 3), .ref (jpl false), .int 1, .ref 46]) (h' := (jX f g n2 p pa s sa false rp t, z)) rfl).trans ?_
    refine (jev_grd (q := jout x2 6) (pc' := 20) (L' := ([some (.ref 43), some (.ref (49 + 6 * 1)), some (.int x2), some (.int x3)], [])) (S' := [.int (pa (jq false) 2 x2.toNatClampNeg), .ref (jpl false), .int 1, .ref 46]) (h' := (jX f g n2 p pa s sa false rp t, z)) rfl).trans (jite_congr (fun _ => rfl) (fun _ => ?_))
    refine (jev_blk 1 (pc' := 21) (L' := ([some (.ref 43), some (.ref (49 + 6 * 1)), some (.int x2), some (.int x3)], [])) (S' := [.int x3, .int (pa (jq false) 2 x2.toNatClampNeg), .ref (jpl false), .int 1, .ref 46]) (h' := (jX f g n2 p pa s sa false rp t, z)) rfl).trans ?_
    exact jev_callb (nx := 22) (rest := [.int 1, .ref 46]) rfl
  · refine (jev_blk 9 (pc' := 19) (L' := ([some (.ref 43), some (.ref (49 + 6 * 1)), some (.int x2), some (.int x3)], [])) (S' := [.int x2, .ref ((jpl true) + 3), .ref (jpl true), .int 1, .ref 46]) (h' := (jX f g n2 p pa s sa true rp t, z)) rfl).trans ?_
    refine (jev_grd (q := jout x2 6) (pc' := 20) (L' := ([some (.ref 43), some (.ref (49 + 6 * 1)), some (.int x2), some (.int x3)], [])) (S' := [.int (pa (jq true) 2 x2.toNatClampNeg), .ref (jpl true), .int 1, .ref 46]) (h' := (jX f g n2 p pa s sa true rp t, z)) rfl).trans (jite_congr (fun _ => rfl) (fun _ => ?_))
    refine (jev_blk 1 (pc' := 21) (L' := ([some (.ref 43), some (.ref (49 + 6 * 1)), some (.int x2), some (.int x3)], [])) (S' := [.int x3, .int (pa (jq true) 2 x2.toNatClampNeg), .ref (jpl true), .int 1, .ref 46]) (h' := (jX f g n2 p pa s sa true rp t, z)) rfl).trans ?_
    exact jev_callb (nx := 22) (rest := [.int 1, .ref 46]) rfl
  · refine (jev_blk 9 (pc' := 19) (L' := ([some (.ref 43), some (.ref (49 + 6 * 2)), some (.int x2), some (.int x3)], [])) (S' := [.int x2, .ref ((jpl false) + 3), .ref (jpl false), .int 1, .ref 46]) (h' := (jX f g n2 p pa s sa false rp t, z)) rfl).trans ?_
    refine (jev_grd (q := jout x2 6) (pc' := 20) (L' := ([some (.ref 43), some (.ref (49 + 6 * 2)), some (.int x2), some (.int x3)], [])) (S' := [.int (pa (jq false) 2 x2.toNatClampNeg), .ref (jpl false), .int 1, .ref 46]) (h' := (jX f g n2 p pa s sa false rp t, z)) rfl).trans (jite_congr (fun _ => rfl) (fun _ => ?_))
    refine (jev_blk 1 (pc' := 21) (L' := ([some (.ref 43), some (.ref (49 + 6 * 2)), some (.int x2), some (.int x3)], [])) (S' := [.int x3, .int (pa (jq false) 2 x2.toNatClampNeg), .ref (jpl false), .int 1, .ref 46]) (h' := (jX f g n2 p pa s sa false rp t, z)) rfl).trans ?_
    exact jev_callb (nx := 22) (rest := [.int 1, .ref 46]) rfl
  · refine (jev_blk 9 (pc' := 19) (L' := ([some (.ref 43), some (.ref (49 + 6 * 2)), some (.int x2), some (.int x3)], [])) (S' := [.int x2, .ref ((jpl true) + 3), .ref (jpl true), .int 1, .ref 46]) (h' := (jX f g n2 p pa s sa true rp t, z)) rfl).trans ?_
    refine (jev_grd (q := jout x2 6) (pc' := 20) (L' := ([some (.ref 43), some (.ref (49 + 6 * 2)), some (.int x2), some (.int x3)], [])) (S' := [.int (pa (jq true) 2 x2.toNatClampNeg), .ref (jpl true), .int 1, .ref 46]) (h' := (jX f g n2 p pa s sa true rp t, z)) rfl).trans (jite_congr (fun _ => rfl) (fun _ => ?_))
    refine (jev_blk 1 (pc' := 21) (L' := ([some (.ref 43), some (.ref (49 + 6 * 2)), some (.int x2), some (.int x3)], [])) (S' := [.int x3, .int (pa (jq true) 2 x2.toNatClampNeg), .ref (jpl true), .int 1, .ref 46]) (h' := (jX f g n2 p pa s sa true rp t, z)) rfl).trans ?_
    exact jev_callb (nx := 22) (rest := [.int 1, .ref 46]) rfl
set_option maxRecDepth 20000 in
theorem E_h_seeWorth_22 {D : Nat} {j : Nat} {d2 : Option Value} {x3 : Int32} {u0 : Int32} {u1 : Int32} {f : Nat → Int32} {g : Nat → Nat → Int32} {n2 : Nat → Nat → Int64} {p : Nat → Nat → Int32} {pa : Nat → Nat → Nat → Int32} {s : Nat → Nat → Int32} {sa : Nat → Nat → Nat → Int32} {sw : Bool} {rp : Value} {t : List jE} {z : Nat × Nat × Nat × (Nat → Int32)} (hj : j < 3) : jev D 9 22 ([some (.ref 43), some (.ref (49 + 6 * j)), d2, some (.int x3)], []) [.int u0, .int u1, .ref 46] (jX f g n2 p pa s sa sw rp t, z) = if jout u1 7 then none else (if jout x3 30 then none else (jev D 9 32 ([some (.ref 43), some (.ref (49 + 6 * j)), d2, some (.int x3)], []) [.long ((sa j 0 x3.toNatClampNeg).toInt64), .int 5, .ref 46] (jX f g (jup n2 0 ((jup (n2 0) (u1.toNatClampNeg) u0.toInt64))) p pa s sa sw rp t, z))) := by
  rcases jlt3 hj with rfl | rfl | rfl <;> cases sw
  · refine (jev_blk 1 (pc' := 23) (L' := ([some (.ref 43), some (.ref (49 + 6 * 0)), d2, some (.int x3)], [])) (S' := [.long u0.toInt64, .int u1, .ref 46]) (h' := (jX f g n2 p pa s sa false rp t, z)) rfl).trans ?_
    refine (jev_grd (q := jout u1 7) (pc' := 24) (L' := ([some (.ref 43), some (.ref (49 + 6 * 0)), d2, some (.int x3)], [])) (S' := []) (h' := (jX f g (jup n2 0 ((jup (n2 0) (u1.toNatClampNeg) u0.toInt64))) p pa s sa false rp t, z)) rfl).trans (jite_congr (fun _ => rfl) (fun _ => ?_))
    refine (jev_blk 6 (pc' := 30) (L' := ([some (.ref 43), some (.ref (49 + 6 * 0)), d2, some (.int x3)], [])) (S' := [.int x3, .ref (50 + 6 * 0 + 0), .int 5, .ref 46]) (h' := (jX f g (jup n2 0 ((jup (n2 0) (u1.toNatClampNeg) u0.toInt64))) p pa s sa false rp t, z)) rfl).trans ?_
    refine (jev_grd (q := jout x3 30) (pc' := 31) (L' := ([some (.ref 43), some (.ref (49 + 6 * 0)), d2, some (.int x3)], [])) (S' := [.int (sa 0 0 x3.toNatClampNeg), .int 5, .ref 46]) (h' := (jX f g (jup n2 0 ((jup (n2 0) (u1.toNatClampNeg) u0.toInt64))) p pa s sa false rp t, z)) rfl).trans (jite_congr (fun _ => rfl) (fun _ => ?_))
    exact jev_blk 1 rfl
  · refine (jev_blk 1 (pc' := 23) (L' := ([some (.ref 43), some (.ref (49 + 6 * 0)), d2, some (.int x3)], [])) (S' := [.long u0.toInt64, .int u1, .ref 46]) (h' := (jX f g n2 p pa s sa true rp t, z)) rfl).trans ?_
    refine (jev_grd (q := jout u1 7) (pc' := 24) (L' := ([some (.ref 43), some (.ref (49 + 6 * 0)), d2, some (.int x3)], [])) (S' := []) (h' := (jX f g (jup n2 0 ((jup (n2 0) (u1.toNatClampNeg) u0.toInt64))) p pa s sa true rp t, z)) rfl).trans (jite_congr (fun _ => rfl) (fun _ => ?_))
    refine (jev_blk 6 (pc' := 30) (L' := ([some (.ref 43), some (.ref (49 + 6 * 0)), d2, some (.int x3)], [])) (S' := [.int x3, .ref (50 + 6 * 0 + 0), .int 5, .ref 46]) (h' := (jX f g (jup n2 0 ((jup (n2 0) (u1.toNatClampNeg) u0.toInt64))) p pa s sa true rp t, z)) rfl).trans ?_
    refine (jev_grd (q := jout x3 30) (pc' := 31) (L' := ([some (.ref 43), some (.ref (49 + 6 * 0)), d2, some (.int x3)], [])) (S' := [.int (sa 0 0 x3.toNatClampNeg), .int 5, .ref 46]) (h' := (jX f g (jup n2 0 ((jup (n2 0) (u1.toNatClampNeg) u0.toInt64))) p pa s sa true rp t, z)) rfl).trans (jite_congr (fun _ => rfl) (fun _ => ?_))
    exact jev_blk 1 rfl
  · refine (jev_blk 1 (pc' := 23) (L' := ([some (.ref 43), some (.ref (49 + 6 * 1)), d2, some (.int x3)], [])) (S' := [.long u0.toInt64, .int u1, .ref 46]) (h' := (jX f g n2 p pa s sa false rp t, z)) rfl).trans ?_
    refine (jev_grd (q := jout u1 7) (pc' := 24) (L' := ([some (.ref 43), some (.ref (49 + 6 * 1)), d2, some (.int x3)], [])) (S' := []) (h' := (jX f g (jup n2 0 ((jup (n2 0) (u1.toNatClampNeg) u0.toInt64))) p pa s sa false rp t, z)) rfl).trans (jite_congr (fun _ => rfl) (fun _ => ?_))
    refine (jev_blk 6 (pc' := 30) (L' := ([some (.ref 43), some (.ref (49 + 6 * 1)), d2, some (.int x3)], [])) (S' := [.int x3, .ref (50 + 6 * 1 + 0), .int 5, .ref 46]) (h' := (jX f g (jup n2 0 ((jup (n2 0) (u1.toNatClampNeg) u0.toInt64))) p pa s sa false rp t, z)) rfl).trans ?_
    refine (jev_grd (q := jout x3 30) (pc' := 31) (L' := ([some (.ref 43), some (.ref (49 + 6 * 1)), d2, some (.int x3)], [])) (S' := [.int (sa 1 0 x3.toNatClampNeg), .int 5, .ref 46]) (h' := (jX f g (jup n2 0 ((jup (n2 0) (u1.toNatClampNeg) u0.toInt64))) p pa s sa false rp t, z)) rfl).trans (jite_congr (fun _ => rfl) (fun _ => ?_))
    exact jev_blk 1 rfl
  · refine (jev_blk 1 (pc' := 23) (L' := ([some (.ref 43), some (.ref (49 + 6 * 1)), d2, some (.int x3)], [])) (S' := [.long u0.toInt64, .int u1, .ref 46]) (h' := (jX f g n2 p pa s sa true rp t, z)) rfl).trans ?_
    refine (jev_grd (q := jout u1 7) (pc' := 24) (L' := ([some (.ref 43), some (.ref (49 + 6 * 1)), d2, some (.int x3)], [])) (S' := []) (h' := (jX f g (jup n2 0 ((jup (n2 0) (u1.toNatClampNeg) u0.toInt64))) p pa s sa true rp t, z)) rfl).trans (jite_congr (fun _ => rfl) (fun _ => ?_))
    refine (jev_blk 6 (pc' := 30) (L' := ([some (.ref 43), some (.ref (49 + 6 * 1)), d2, some (.int x3)], [])) (S' := [.int x3, .ref (50 + 6 * 1 + 0), .int 5, .ref 46]) (h' := (jX f g (jup n2 0 ((jup (n2 0) (u1.toNatClampNeg) u0.toInt64))) p pa s sa true rp t, z)) rfl).trans ?_
    refine (jev_grd (q := jout x3 30) (pc' := 31) (L' := ([some (.ref 43), some (.ref (49 + 6 * 1)), d2, some (.int x3)], [])) (S' := [.int (sa 1 0 x3.toNatClampNeg), .int 5, .ref 46]) (h' := (jX f g (jup n2 0 ((jup (n2 0) (u1.toNatClampNeg) u0.toInt64))) p pa s sa true rp t, z)) rfl).trans (jite_congr (fun _ => rfl) (fun _ => ?_))
    exact jev_blk 1 rfl
  · refine (jev_blk 1 (pc' := 23) (L' := ([some (.ref 43), some (.ref (49 + 6 * 2)), d2, some (.int x3)], [])) (S' := [.long u0.toInt64, .int u1, .ref 46]) (h' := (jX f g n2 p pa s sa false rp t, z)) rfl).trans ?_
    refine (jev_grd (q := jout u1 7) (pc' := 24) (L' := ([some (.ref 43), some (.ref (49 + 6 * 2)), d2, some (.int x3)], [])) (S' := []) (h' := (jX f g (jup n2 0 ((jup (n2 0) (u1.toNatClampNeg) u0.toInt64))) p pa s sa false rp t, z)) rfl).trans (jite_congr (fun _ => rfl) (fun _ => ?_))
    refine (jev_blk 6 (pc' := 30) (L' := ([some (.ref 43), some (.ref (49 + 6 * 2)), d2, some (.int x3)], [])) (S' := [.int x3, .ref (50 + 6 * 2 + 0), .int 5, .ref 46]) (h' := (jX f g (jup n2 0 ((jup (n2 0) (u1.toNatClampNeg) u0.toInt64))) p pa s sa false rp t, z)) rfl).trans ?_
    refine (jev_grd (q := jout x3 30) (pc' := 31) (L' := ([some (.ref 43), some (.ref (49 + 6 * 2)), d2, some (.int x3)], [])) (S' := [.int (sa 2 0 x3.toNatClampNeg), .int 5, .ref 46]) (h' := (jX f g (jup n2 0 ((jup (n2 0) (u1.toNatClampNeg) u0.toInt64))) p pa s sa false rp t, z)) rfl).trans (jite_congr (fun _ => rfl) (fun _ => ?_))
    exact jev_blk 1 rfl
  · refine (jev_blk 1 (pc' := 23) (L' := ([some (.ref 43), some (.ref (49 + 6 * 2)), d2, some (.int x3)], [])) (S' := [.long u0.toInt64, .int u1, .ref 46]) (h' := (jX f g n2 p pa s sa true rp t, z)) rfl).trans ?_
    refine (jev_grd (q := jout u1 7) (pc' := 24) (L' := ([some (.ref 43), some (.ref (49 + 6 * 2)), d2, some (.int x3)], [])) (S' := []) (h' := (jX f g (jup n2 0 ((jup (n2 0) (u1.toNatClampNeg) u0.toInt64))) p pa s sa true rp t, z)) rfl).trans (jite_congr (fun _ => rfl) (fun _ => ?_))
    refine (jev_blk 6 (pc' := 30) (L' := ([some (.ref 43), some (.ref (49 + 6 * 2)), d2, some (.int x3)], [])) (S' := [.int x3, .ref (50 + 6 * 2 + 0), .int 5, .ref 46]) (h' := (jX f g (jup n2 0 ((jup (n2 0) (u1.toNatClampNeg) u0.toInt64))) p pa s sa true rp t, z)) rfl).trans ?_
    refine (jev_grd (q := jout x3 30) (pc' := 31) (L' := ([some (.ref 43), some (.ref (49 + 6 * 2)), d2, some (.int x3)], [])) (S' := [.int (sa 2 0 x3.toNatClampNeg), .int 5, .ref 46]) (h' := (jX f g (jup n2 0 ((jup (n2 0) (u1.toNatClampNeg) u0.toInt64))) p pa s sa true rp t, z)) rfl).trans (jite_congr (fun _ => rfl) (fun _ => ?_))
    exact jev_blk 1 rfl
set_option maxRecDepth 20000 in
theorem E_h_seeWorth_32 {D : Nat}  {d1 : Option Value} {d2 : Option Value} {d3 : Option Value} {u0 : Int64} {u1 : Int32} {f : Nat → Int32} {g : Nat → Nat → Int32} {n2 : Nat → Nat → Int64} {p : Nat → Nat → Int32} {pa : Nat → Nat → Nat → Int32} {s : Nat → Nat → Int32} {sa : Nat → Nat → Nat → Int32} {sw : Bool} {rp : Value} {t : List jE} {z : Nat × Nat × Nat × (Nat → Int32)}  : jev D 9 32 ([some (.ref 43), d1, d2, d3], []) [.long u0, .int u1, .ref 46] (jX f g n2 p pa s sa sw rp t, z) = if jout u1 7 then none else (jbO (K_w_worth D sw 0 f g (jup n2 0 ((jup (n2 0) (u1.toNatClampNeg) u0))) p pa s sa sw rp t z) (jk D 9 43 ([some (.ref 43), d1, d2, d3], []) [])) := by
  cases sw
  · refine (jev_grd (q := jout u1 7) (pc' := 33) (L' := ([some (.ref 43), d1, d2, d3], [])) (S' := []) (h' := (jX f g (jup n2 0 ((jup (n2 0) (u1.toNatClampNeg) u0))) p pa s sa false rp t, z)) rfl).trans (jite_congr (fun _ => rfl) (fun _ => ?_))
    refine (jev_blk 9 (pc' := 42) (L' := ([some (.ref 43), d1, d2, d3], [])) (S' := [.ref 47, .ref 46, .ref ((jpl false) + 10)]) (h' := (jX f g (jup n2 0 ((jup (n2 0) (u1.toNatClampNeg) u0))) p pa s sa false rp t, z)) rfl).trans ?_
    exact jev_callb (nx := 43) (rest := []) rfl
  · refine (jev_grd (q := jout u1 7) (pc' := 33) (L' := ([some (.ref 43), d1, d2, d3], [])) (S' := []) (h' := (jX f g (jup n2 0 ((jup (n2 0) (u1.toNatClampNeg) u0))) p pa s sa true rp t, z)) rfl).trans (jite_congr (fun _ => rfl) (fun _ => ?_))
    refine (jev_blk 9 (pc' := 42) (L' := ([some (.ref 43), d1, d2, d3], [])) (S' := [.ref 47, .ref 46, .ref ((jpl true) + 10)]) (h' := (jX f g (jup n2 0 ((jup (n2 0) (u1.toNatClampNeg) u0))) p pa s sa true rp t, z)) rfl).trans ?_
    exact jev_callb (nx := 43) (rest := []) rfl
set_option maxRecDepth 20000 in
theorem E_h_seeWorth_43 {D : Nat}  {d1 : Option Value} {d2 : Option Value} {d3 : Option Value} {u0 : Int64} {f : Nat → Int32} {g : Nat → Nat → Int32} {n2 : Nat → Nat → Int64} {p : Nat → Nat → Int32} {pa : Nat → Nat → Nat → Int32} {s : Nat → Nat → Int32} {sa : Nat → Nat → Nat → Int32} {sw : Bool} {rp : Value} {t : List jE} {z : Nat × Nat × Nat × (Nat → Int32)}  : jev D 9 43 ([some (.ref 43), d1, d2, d3], []) [.long u0] (jX f g n2 p pa s sa sw rp t, z) = some (.inl (some (.long u0)), (jX f g n2 p pa s sa sw rp t, z)) := by
  cases sw
  · exact jev_fin rfl
  · exact jev_fin rfl
set_option maxRecDepth 20000 in
theorem E_h_eatWorth {D : Nat} {j : Nat} {a1 : Int32} {f : Nat → Int32} {g : Nat → Nat → Int32} {n2 : Nat → Nat → Int64} {p : Nat → Nat → Int32} {pa : Nat → Nat → Nat → Int32} {s : Nat → Nat → Int32} {sa : Nat → Nat → Nat → Int32} {sw : Bool} {rp : Value} {t : List jE} {z : Nat × Nat × Nat × (Nat → Int32)} (hj : j < 3) : K_h_eatWorth D j a1 f g n2 p pa s sa sw rp t z = jbO (K_h_stand D j 0 0 f g n2 p pa s sa sw rp t z) (jk D 10 5 ([some (.ref 43), some (.ref (49 + 6 * j)), some (.int a1)], []) []) := by
  rcases jlt3 hj with rfl | rfl | rfl <;> cases sw
  · refine (jev_blk 4 (pc' := 4) (L' := ([some (.ref 43), some (.ref (49 + 6 * 0)), some (.int a1)], [])) (S' := [.int 0, .int 0, .ref (49 + 6 * 0), .ref 43]) (h' := (jX f g n2 p pa s sa false rp t, z)) rfl).trans ?_
    exact jev_callb (nx := 5) (rest := []) rfl
  · refine (jev_blk 4 (pc' := 4) (L' := ([some (.ref 43), some (.ref (49 + 6 * 0)), some (.int a1)], [])) (S' := [.int 0, .int 0, .ref (49 + 6 * 0), .ref 43]) (h' := (jX f g n2 p pa s sa true rp t, z)) rfl).trans ?_
    exact jev_callb (nx := 5) (rest := []) rfl
  · refine (jev_blk 4 (pc' := 4) (L' := ([some (.ref 43), some (.ref (49 + 6 * 1)), some (.int a1)], [])) (S' := [.int 0, .int 0, .ref (49 + 6 * 1), .ref 43]) (h' := (jX f g n2 p pa s sa false rp t, z)) rfl).trans ?_
    exact jev_callb (nx := 5) (rest := []) rfl
  · refine (jev_blk 4 (pc' := 4) (L' := ([some (.ref 43), some (.ref (49 + 6 * 1)), some (.int a1)], [])) (S' := [.int 0, .int 0, .ref (49 + 6 * 1), .ref 43]) (h' := (jX f g n2 p pa s sa true rp t, z)) rfl).trans ?_
    exact jev_callb (nx := 5) (rest := []) rfl
  · refine (jev_blk 4 (pc' := 4) (L' := ([some (.ref 43), some (.ref (49 + 6 * 2)), some (.int a1)], [])) (S' := [.int 0, .int 0, .ref (49 + 6 * 2), .ref 43]) (h' := (jX f g n2 p pa s sa false rp t, z)) rfl).trans ?_
    exact jev_callb (nx := 5) (rest := []) rfl
  · refine (jev_blk 4 (pc' := 4) (L' := ([some (.ref 43), some (.ref (49 + 6 * 2)), some (.int a1)], [])) (S' := [.int 0, .int 0, .ref (49 + 6 * 2), .ref 43]) (h' := (jX f g n2 p pa s sa true rp t, z)) rfl).trans ?_
    exact jev_callb (nx := 5) (rest := []) rfl
set_option maxRecDepth 20000 in
theorem E_h_eatWorth_5 {D : Nat} {j : Nat} {x2 : Int32} {f : Nat → Int32} {g : Nat → Nat → Int32} {n2 : Nat → Nat → Int64} {p : Nat → Nat → Int32} {pa : Nat → Nat → Nat → Int32} {s : Nat → Nat → Int32} {sa : Nat → Nat → Nat → Int32} {sw : Bool} {rp : Value} {t : List jE} {z : Nat × Nat × Nat × (Nat → Int32)} (hj : j < 3) : jev D 10 5 ([some (.ref 43), some (.ref (49 + 6 * j)), some (.int x2)], []) [] (jX f g n2 p pa s sa sw rp t, z) = if jout x2 30 then none else (jbO (K_w_worth D sw 1 f g (jup n2 0 ((jup (n2 0) 5 ((sa j 0 x2.toNatClampNeg).toInt64)))) p pa s sa sw rp t z) (jk D 10 24 ([some (.ref 43), some (.ref (49 + 6 * j)), some (.int x2)], []) [])) := by
  rcases jlt3 hj with rfl | rfl | rfl <;> cases sw
  · refine (jev_blk 6 (pc' := 11) (L' := ([some (.ref 43), some (.ref (49 + 6 * 0)), some (.int x2)], [])) (S' := [.int x2, .ref (50 + 6 * 0 + 0), .int 5, .ref 46]) (h' := (jX f g n2 p pa s sa false rp t, z)) rfl).trans ?_
    refine (jev_grd (q := jout x2 30) (pc' := 12) (L' := ([some (.ref 43), some (.ref (49 + 6 * 0)), some (.int x2)], [])) (S' := [.int (sa 0 0 x2.toNatClampNeg), .int 5, .ref 46]) (h' := (jX f g n2 p pa s sa false rp t, z)) rfl).trans (jite_congr (fun _ => rfl) (fun _ => ?_))
    refine (jev_blk 11 (pc' := 23) (L' := ([some (.ref 43), some (.ref (49 + 6 * 0)), some (.int x2)], [])) (S' := [.ref 47, .ref 46, .ref ((jpl false) + 13)]) (h' := (jX f g (jup n2 0 ((jup (n2 0) 5 ((sa 0 0 x2.toNatClampNeg).toInt64)))) p pa s sa false rp t, z)) rfl).trans ?_
    exact jev_callb (nx := 24) (rest := []) rfl
  · refine (jev_blk 6 (pc' := 11) (L' := ([some (.ref 43), some (.ref (49 + 6 * 0)), some (.int x2)], [])) (S' := [.int x2, .ref (50 + 6 * 0 + 0), .int 5, .ref 46]) (h' := (jX f g n2 p pa s sa true rp t, z)) rfl).trans ?_
    refine (jev_grd (q := jout x2 30) (pc' := 12) (L' := ([some (.ref 43), some (.ref (49 + 6 * 0)), some (.int x2)], [])) (S' := [.int (sa 0 0 x2.toNatClampNeg), .int 5, .ref 46]) (h' := (jX f g n2 p pa s sa true rp t, z)) rfl).trans (jite_congr (fun _ => rfl) (fun _ => ?_))
    refine (jev_blk 11 (pc' := 23) (L' := ([some (.ref 43), some (.ref (49 + 6 * 0)), some (.int x2)], [])) (S' := [.ref 47, .ref 46, .ref ((jpl true) + 13)]) (h' := (jX f g (jup n2 0 ((jup (n2 0) 5 ((sa 0 0 x2.toNatClampNeg).toInt64)))) p pa s sa true rp t, z)) rfl).trans ?_
    exact jev_callb (nx := 24) (rest := []) rfl
  · refine (jev_blk 6 (pc' := 11) (L' := ([some (.ref 43), some (.ref (49 + 6 * 1)), some (.int x2)], [])) (S' := [.int x2, .ref (50 + 6 * 1 + 0), .int 5, .ref 46]) (h' := (jX f g n2 p pa s sa false rp t, z)) rfl).trans ?_
    refine (jev_grd (q := jout x2 30) (pc' := 12) (L' := ([some (.ref 43), some (.ref (49 + 6 * 1)), some (.int x2)], [])) (S' := [.int (sa 1 0 x2.toNatClampNeg), .int 5, .ref 46]) (h' := (jX f g n2 p pa s sa false rp t, z)) rfl).trans (jite_congr (fun _ => rfl) (fun _ => ?_))
    refine (jev_blk 11 (pc' := 23) (L' := ([some (.ref 43), some (.ref (49 + 6 * 1)), some (.int x2)], [])) (S' := [.ref 47, .ref 46, .ref ((jpl false) + 13)]) (h' := (jX f g (jup n2 0 ((jup (n2 0) 5 ((sa 1 0 x2.toNatClampNeg).toInt64)))) p pa s sa false rp t, z)) rfl).trans ?_
    exact jev_callb (nx := 24) (rest := []) rfl
  · refine (jev_blk 6 (pc' := 11) (L' := ([some (.ref 43), some (.ref (49 + 6 * 1)), some (.int x2)], [])) (S' := [.int x2, .ref (50 + 6 * 1 + 0), .int 5, .ref 46]) (h' := (jX f g n2 p pa s sa true rp t, z)) rfl).trans ?_
    refine (jev_grd (q := jout x2 30) (pc' := 12) (L' := ([some (.ref 43), some (.ref (49 + 6 * 1)), some (.int x2)], [])) (S' := [.int (sa 1 0 x2.toNatClampNeg), .int 5, .ref 46]) (h' := (jX f g n2 p pa s sa true rp t, z)) rfl).trans (jite_congr (fun _ => rfl) (fun _ => ?_))
    refine (jev_blk 11 (pc' := 23) (L' := ([some (.ref 43), some (.ref (49 + 6 * 1)), some (.int x2)], [])) (S' := [.ref 47, .ref 46, .ref ((jpl true) + 13)]) (h' := (jX f g (jup n2 0 ((jup (n2 0) 5 ((sa 1 0 x2.toNatClampNeg).toInt64)))) p pa s sa true rp t, z)) rfl).trans ?_
    exact jev_callb (nx := 24) (rest := []) rfl
  · refine (jev_blk 6 (pc' := 11) (L' := ([some (.ref 43), some (.ref (49 + 6 * 2)), some (.int x2)], [])) (S' := [.int x2, .ref (50 + 6 * 2 + 0), .int 5, .ref 46]) (h' := (jX f g n2 p pa s sa false rp t, z)) rfl).trans ?_
    refine (jev_grd (q := jout x2 30) (pc' := 12) (L' := ([some (.ref 43), some (.ref (49 + 6 * 2)), some (.int x2)], [])) (S' := [.int (sa 2 0 x2.toNatClampNeg), .int 5, .ref 46]) (h' := (jX f g n2 p pa s sa false rp t, z)) rfl).trans (jite_congr (fun _ => rfl) (fun _ => ?_))
    refine (jev_blk 11 (pc' := 23) (L' := ([some (.ref 43), some (.ref (49 + 6 * 2)), some (.int x2)], [])) (S' := [.ref 47, .ref 46, .ref ((jpl false) + 13)]) (h' := (jX f g (jup n2 0 ((jup (n2 0) 5 ((sa 2 0 x2.toNatClampNeg).toInt64)))) p pa s sa false rp t, z)) rfl).trans ?_
    exact jev_callb (nx := 24) (rest := []) rfl
  · refine (jev_blk 6 (pc' := 11) (L' := ([some (.ref 43), some (.ref (49 + 6 * 2)), some (.int x2)], [])) (S' := [.int x2, .ref (50 + 6 * 2 + 0), .int 5, .ref 46]) (h' := (jX f g n2 p pa s sa true rp t, z)) rfl).trans ?_
    refine (jev_grd (q := jout x2 30) (pc' := 12) (L' := ([some (.ref 43), some (.ref (49 + 6 * 2)), some (.int x2)], [])) (S' := [.int (sa 2 0 x2.toNatClampNeg), .int 5, .ref 46]) (h' := (jX f g n2 p pa s sa true rp t, z)) rfl).trans (jite_congr (fun _ => rfl) (fun _ => ?_))
    refine (jev_blk 11 (pc' := 23) (L' := ([some (.ref 43), some (.ref (49 + 6 * 2)), some (.int x2)], [])) (S' := [.ref 47, .ref 46, .ref ((jpl true) + 13)]) (h' := (jX f g (jup n2 0 ((jup (n2 0) 5 ((sa 2 0 x2.toNatClampNeg).toInt64)))) p pa s sa true rp t, z)) rfl).trans ?_
    exact jev_callb (nx := 24) (rest := []) rfl
set_option maxRecDepth 20000 in
theorem E_h_eatWorth_24 {D : Nat}  {d1 : Option Value} {d2 : Option Value} {u0 : Int64} {f : Nat → Int32} {g : Nat → Nat → Int32} {n2 : Nat → Nat → Int64} {p : Nat → Nat → Int32} {pa : Nat → Nat → Nat → Int32} {s : Nat → Nat → Int32} {sa : Nat → Nat → Nat → Int32} {sw : Bool} {rp : Value} {t : List jE} {z : Nat × Nat × Nat × (Nat → Int32)}  : jev D 10 24 ([some (.ref 43), d1, d2], []) [.long u0] (jX f g n2 p pa s sa sw rp t, z) = some (.inl (some (.long u0)), (jX f g n2 p pa s sa sw rp t, z)) := by
  cases sw
  · exact jev_fin rfl
  · exact jev_fin rfl
set_option maxRecDepth 20000 in
theorem E_h_payWorth {D : Nat} {j : Nat} {a1 : Int32} {f : Nat → Int32} {g : Nat → Nat → Int32} {n2 : Nat → Nat → Int64} {p : Nat → Nat → Int32} {pa : Nat → Nat → Nat → Int32} {s : Nat → Nat → Int32} {sa : Nat → Nat → Nat → Int32} {sw : Bool} {rp : Value} {t : List jE} {z : Nat × Nat × Nat × (Nat → Int32)} (hj : j < 3) : K_h_payWorth D j a1 f g n2 p pa s sa sw rp t z = jbO (K_h_sightOf D a1 f g n2 p pa s sa sw rp t z) (jk D 11 5 ([some (.ref 43), some (.ref (49 + 6 * j)), some (.int a1)], []) [.ref (49 + 6 * j), .ref 43]) := by
  rcases jlt3 hj with rfl | rfl | rfl <;> cases sw
  · refine (jev_blk 4 (pc' := 4) (L' := ([some (.ref 43), some (.ref (49 + 6 * 0)), some (.int a1)], [])) (S' := [.int a1, .ref 43, .ref (49 + 6 * 0), .ref 43]) (h' := (jX f g n2 p pa s sa false rp t, z)) rfl).trans ?_
    exact jev_callb (nx := 5) (rest := [.ref (49 + 6 * 0), .ref 43]) rfl
  · refine (jev_blk 4 (pc' := 4) (L' := ([some (.ref 43), some (.ref (49 + 6 * 0)), some (.int a1)], [])) (S' := [.int a1, .ref 43, .ref (49 + 6 * 0), .ref 43]) (h' := (jX f g n2 p pa s sa true rp t, z)) rfl).trans ?_
    exact jev_callb (nx := 5) (rest := [.ref (49 + 6 * 0), .ref 43]) rfl
  · refine (jev_blk 4 (pc' := 4) (L' := ([some (.ref 43), some (.ref (49 + 6 * 1)), some (.int a1)], [])) (S' := [.int a1, .ref 43, .ref (49 + 6 * 1), .ref 43]) (h' := (jX f g n2 p pa s sa false rp t, z)) rfl).trans ?_
    exact jev_callb (nx := 5) (rest := [.ref (49 + 6 * 1), .ref 43]) rfl
  · refine (jev_blk 4 (pc' := 4) (L' := ([some (.ref 43), some (.ref (49 + 6 * 1)), some (.int a1)], [])) (S' := [.int a1, .ref 43, .ref (49 + 6 * 1), .ref 43]) (h' := (jX f g n2 p pa s sa true rp t, z)) rfl).trans ?_
    exact jev_callb (nx := 5) (rest := [.ref (49 + 6 * 1), .ref 43]) rfl
  · refine (jev_blk 4 (pc' := 4) (L' := ([some (.ref 43), some (.ref (49 + 6 * 2)), some (.int a1)], [])) (S' := [.int a1, .ref 43, .ref (49 + 6 * 2), .ref 43]) (h' := (jX f g n2 p pa s sa false rp t, z)) rfl).trans ?_
    exact jev_callb (nx := 5) (rest := [.ref (49 + 6 * 2), .ref 43]) rfl
  · refine (jev_blk 4 (pc' := 4) (L' := ([some (.ref 43), some (.ref (49 + 6 * 2)), some (.int a1)], [])) (S' := [.int a1, .ref 43, .ref (49 + 6 * 2), .ref 43]) (h' := (jX f g n2 p pa s sa true rp t, z)) rfl).trans ?_
    exact jev_callb (nx := 5) (rest := [.ref (49 + 6 * 2), .ref 43]) rfl
set_option maxRecDepth 20000 in
theorem E_h_payWorth_5 {D : Nat} {j : Nat} {x2 : Int32} {u0 : Int32} {f : Nat → Int32} {g : Nat → Nat → Int32} {n2 : Nat → Nat → Int64} {p : Nat → Nat → Int32} {pa : Nat → Nat → Nat → Int32} {s : Nat → Nat → Int32} {sa : Nat → Nat → Nat → Int32} {sw : Bool} {rp : Value} {t : List jE} {z : Nat × Nat × Nat × (Nat → Int32)} (hj : j < 3) : jev D 11 5 ([some (.ref 43), some (.ref (49 + 6 * j)), some (.int x2)], []) [.int u0, .ref (49 + 6 * j), .ref 43] (jX f g n2 p pa s sa sw rp t, z) = if jout x2 6 then none else (jbO (K_h_stand D j u0 (sa j 3 x2.toNatClampNeg) f g n2 p pa s sa sw rp t z) (jk D 11 10 ([some (.ref 43), some (.ref (49 + 6 * j)), some (.int x2)], []) [])) := by
  rcases jlt3 hj with rfl | rfl | rfl <;> cases sw
  · refine (jev_blk 3 (pc' := 8) (L' := ([some (.ref 43), some (.ref (49 + 6 * 0)), some (.int x2)], [])) (S' := [.int x2, .ref (50 + 6 * 0 + 3), .int u0, .ref (49 + 6 * 0), .ref 43]) (h' := (jX f g n2 p pa s sa false rp t, z)) rfl).trans ?_
    refine (jev_grd (q := jout x2 6) (pc' := 9) (L' := ([some (.ref 43), some (.ref (49 + 6 * 0)), some (.int x2)], [])) (S' := [.int (sa 0 3 x2.toNatClampNeg), .int u0, .ref (49 + 6 * 0), .ref 43]) (h' := (jX f g n2 p pa s sa false rp t, z)) rfl).trans (jite_congr (fun _ => rfl) (fun _ => ?_))
    exact jev_callb (nx := 10) (rest := []) rfl
  · refine (jev_blk 3 (pc' := 8) (L' := ([some (.ref 43), some (.ref (49 + 6 * 0)), some (.int x2)], [])) (S' := [.int x2, .ref (50 + 6 * 0 + 3), .int u0, .ref (49 + 6 * 0), .ref 43]) (h' := (jX f g n2 p pa s sa true rp t, z)) rfl).trans ?_
    refine (jev_grd (q := jout x2 6) (pc' := 9) (L' := ([some (.ref 43), some (.ref (49 + 6 * 0)), some (.int x2)], [])) (S' := [.int (sa 0 3 x2.toNatClampNeg), .int u0, .ref (49 + 6 * 0), .ref 43]) (h' := (jX f g n2 p pa s sa true rp t, z)) rfl).trans (jite_congr (fun _ => rfl) (fun _ => ?_))
    exact jev_callb (nx := 10) (rest := []) rfl
  · refine (jev_blk 3 (pc' := 8) (L' := ([some (.ref 43), some (.ref (49 + 6 * 1)), some (.int x2)], [])) (S' := [.int x2, .ref (50 + 6 * 1 + 3), .int u0, .ref (49 + 6 * 1), .ref 43]) (h' := (jX f g n2 p pa s sa false rp t, z)) rfl).trans ?_
    refine (jev_grd (q := jout x2 6) (pc' := 9) (L' := ([some (.ref 43), some (.ref (49 + 6 * 1)), some (.int x2)], [])) (S' := [.int (sa 1 3 x2.toNatClampNeg), .int u0, .ref (49 + 6 * 1), .ref 43]) (h' := (jX f g n2 p pa s sa false rp t, z)) rfl).trans (jite_congr (fun _ => rfl) (fun _ => ?_))
    exact jev_callb (nx := 10) (rest := []) rfl
  · refine (jev_blk 3 (pc' := 8) (L' := ([some (.ref 43), some (.ref (49 + 6 * 1)), some (.int x2)], [])) (S' := [.int x2, .ref (50 + 6 * 1 + 3), .int u0, .ref (49 + 6 * 1), .ref 43]) (h' := (jX f g n2 p pa s sa true rp t, z)) rfl).trans ?_
    refine (jev_grd (q := jout x2 6) (pc' := 9) (L' := ([some (.ref 43), some (.ref (49 + 6 * 1)), some (.int x2)], [])) (S' := [.int (sa 1 3 x2.toNatClampNeg), .int u0, .ref (49 + 6 * 1), .ref 43]) (h' := (jX f g n2 p pa s sa true rp t, z)) rfl).trans (jite_congr (fun _ => rfl) (fun _ => ?_))
    exact jev_callb (nx := 10) (rest := []) rfl
  · refine (jev_blk 3 (pc' := 8) (L' := ([some (.ref 43), some (.ref (49 + 6 * 2)), some (.int x2)], [])) (S' := [.int x2, .ref (50 + 6 * 2 + 3), .int u0, .ref (49 + 6 * 2), .ref 43]) (h' := (jX f g n2 p pa s sa false rp t, z)) rfl).trans ?_
    refine (jev_grd (q := jout x2 6) (pc' := 9) (L' := ([some (.ref 43), some (.ref (49 + 6 * 2)), some (.int x2)], [])) (S' := [.int (sa 2 3 x2.toNatClampNeg), .int u0, .ref (49 + 6 * 2), .ref 43]) (h' := (jX f g n2 p pa s sa false rp t, z)) rfl).trans (jite_congr (fun _ => rfl) (fun _ => ?_))
    exact jev_callb (nx := 10) (rest := []) rfl
  · refine (jev_blk 3 (pc' := 8) (L' := ([some (.ref 43), some (.ref (49 + 6 * 2)), some (.int x2)], [])) (S' := [.int x2, .ref (50 + 6 * 2 + 3), .int u0, .ref (49 + 6 * 2), .ref 43]) (h' := (jX f g n2 p pa s sa true rp t, z)) rfl).trans ?_
    refine (jev_grd (q := jout x2 6) (pc' := 9) (L' := ([some (.ref 43), some (.ref (49 + 6 * 2)), some (.int x2)], [])) (S' := [.int (sa 2 3 x2.toNatClampNeg), .int u0, .ref (49 + 6 * 2), .ref 43]) (h' := (jX f g n2 p pa s sa true rp t, z)) rfl).trans (jite_congr (fun _ => rfl) (fun _ => ?_))
    exact jev_callb (nx := 10) (rest := []) rfl
set_option maxRecDepth 20000 in
theorem E_h_payWorth_10 {D : Nat}  {d1 : Option Value} {d2 : Option Value} {f : Nat → Int32} {g : Nat → Nat → Int32} {n2 : Nat → Nat → Int64} {p : Nat → Nat → Int32} {pa : Nat → Nat → Nat → Int32} {s : Nat → Nat → Int32} {sa : Nat → Nat → Nat → Int32} {sw : Bool} {rp : Value} {t : List jE} {z : Nat × Nat × Nat × (Nat → Int32)}  : jev D 11 10 ([some (.ref 43), d1, d2], []) [] (jX f g n2 p pa s sa sw rp t, z) = jbO (K_w_worth D sw 2 f g n2 p pa s sa sw rp t z) (jk D 11 20 ([some (.ref 43), d1, d2], []) []) := by
  cases sw
  · refine (jev_blk 9 (pc' := 19) (L' := ([some (.ref 43), d1, d2], [])) (S' := [.ref 47, .ref 46, .ref ((jpl false) + 16)]) (h' := (jX f g n2 p pa s sa false rp t, z)) rfl).trans ?_
    exact jev_callb (nx := 20) (rest := []) rfl
  · refine (jev_blk 9 (pc' := 19) (L' := ([some (.ref 43), d1, d2], [])) (S' := [.ref 47, .ref 46, .ref ((jpl true) + 16)]) (h' := (jX f g n2 p pa s sa true rp t, z)) rfl).trans ?_
    exact jev_callb (nx := 20) (rest := []) rfl
set_option maxRecDepth 20000 in
theorem E_h_payWorth_20 {D : Nat}  {d1 : Option Value} {d2 : Option Value} {u0 : Int64} {f : Nat → Int32} {g : Nat → Nat → Int32} {n2 : Nat → Nat → Int64} {p : Nat → Nat → Int32} {pa : Nat → Nat → Nat → Int32} {s : Nat → Nat → Int32} {sa : Nat → Nat → Nat → Int32} {sw : Bool} {rp : Value} {t : List jE} {z : Nat × Nat × Nat × (Nat → Int32)}  : jev D 11 20 ([some (.ref 43), d1, d2], []) [.long u0] (jX f g n2 p pa s sa sw rp t, z) = some (.inl (some (.long u0)), (jX f g n2 p pa s sa sw rp t, z)) := by
  cases sw
  · exact jev_fin rfl
  · exact jev_fin rfl
set_option maxRecDepth 20000 in
theorem E_h_putBetween {D : Nat}  {a0 : Int64} {f : Nat → Int32} {g : Nat → Nat → Int32} {n2 : Nat → Nat → Int64} {p : Nat → Nat → Int32} {pa : Nat → Nat → Nat → Int32} {s : Nat → Nat → Int32} {sa : Nat → Nat → Nat → Int32} {sw : Bool} {rp : Value} {t : List jE} {z : Nat × Nat × Nat × (Nat → Int32)}  : K_h_putBetween D a0 f g n2 p pa s sa sw rp t z = some (.inl (some (.int ((if (if a0 < 99 then a0 else 99) < 0 then 0 else (if a0 < 99 then a0 else 99)).toInt32))), (jX f g n2 p pa s sa sw rp t, z)) := by
  cases sw
  · refine (jev_blk 3 (pc' := 3) (L' := ([none, none], [some a0, none])) (S' := [.long a0, .long 99, .long 0]) (h' := (jX f g n2 p pa s sa false rp t, z)) rfl).trans ?_
    refine (jev_prim (a := 10) (As := [.long 99, .long a0]) (nx := 4) (rest := [.long 0]) rfl (r := some (.long (if a0 < 99 then a0 else 99))) (h' := (jX f g n2 p pa s sa false rp t, z)) rfl).trans ?_
    refine (jev_prim (a := 9) (As := [.long 0, .long (if a0 < 99 then a0 else 99)]) (nx := 5) (rest := []) rfl (r := some (.long (if (if a0 < 99 then a0 else 99) < 0 then 0 else (if a0 < 99 then a0 else 99)))) (h' := (jX f g n2 p pa s sa false rp t, z)) rfl).trans ?_
    refine (jev_blk 1 (pc' := 6) (L' := ([none, none], [some a0, none])) (S' := [.int ((if (if a0 < 99 then a0 else 99) < 0 then 0 else (if a0 < 99 then a0 else 99)).toInt32)]) (h' := (jX f g n2 p pa s sa false rp t, z)) rfl).trans ?_
    exact jev_fin rfl
  · refine (jev_blk 3 (pc' := 3) (L' := ([none, none], [some a0, none])) (S' := [.long a0, .long 99, .long 0]) (h' := (jX f g n2 p pa s sa true rp t, z)) rfl).trans ?_
    refine (jev_prim (a := 10) (As := [.long 99, .long a0]) (nx := 4) (rest := [.long 0]) rfl (r := some (.long (if a0 < 99 then a0 else 99))) (h' := (jX f g n2 p pa s sa true rp t, z)) rfl).trans ?_
    refine (jev_prim (a := 9) (As := [.long 0, .long (if a0 < 99 then a0 else 99)]) (nx := 5) (rest := []) rfl (r := some (.long (if (if a0 < 99 then a0 else 99) < 0 then 0 else (if a0 < 99 then a0 else 99)))) (h' := (jX f g n2 p pa s sa true rp t, z)) rfl).trans ?_
    refine (jev_blk 1 (pc' := 6) (L' := ([none, none], [some a0, none])) (S' := [.int ((if (if a0 < 99 then a0 else 99) < 0 then 0 else (if a0 < 99 then a0 else 99)).toInt32)]) (h' := (jX f g n2 p pa s sa true rp t, z)) rfl).trans ?_
    exact jev_fin rfl
