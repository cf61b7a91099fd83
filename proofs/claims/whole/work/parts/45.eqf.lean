-- EQUATIONS: one a block; E_ unfolds, L_ a loop's head
set_option maxRecDepth 20000 in
theorem E_h_passHours_16 {D : Nat} {j : Nat} {x2 : Int32} {x3 : Int32} {x4 : Int32} {u0 : Int32} {f : Nat → Int32} {g : Nat → Nat → Int32} {n2 : Nat → Nat → Int64} {p : Nat → Nat → Int32} {pa : Nat → Nat → Nat → Int32} {s : Nat → Nat → Int32} {sa : Nat → Nat → Nat → Int32} {sw : Bool} {rp : Value} {t : List jE} {z : Nat × Nat × Nat × (Nat → Int32)} (hj : j < 3) : K_h_passHours_16 D j x2 x3 x4 u0 f g n2 p pa s sa sw rp t z = jbO (K_h_pass D j (jup f 15 (u0)) g n2 p pa s sa sw rp t z) (jk D 17 20 ([some (.ref 43), some (.ref (49 + 6 * j)), some (.int x2), some (.int x3), some (.int x4)], []) []) := by
  rcases jlt3 hj with rfl | rfl | rfl <;> cases sw
  · refine (jev_blk 3 (pc' := 19) (L' := ([some (.ref 43), some (.ref (49 + 6 * 0)), some (.int x2), some (.int x3), some (.int x4)], [])) (S' := [.ref (49 + 6 * 0), .ref 43]) (h' := (jX (jup f 15 (u0)) g n2 p pa s sa false rp t, z)) rfl).trans ?_
    exact jev_callb (nx := 20) (rest := []) rfl
  · refine (jev_blk 3 (pc' := 19) (L' := ([some (.ref 43), some (.ref (49 + 6 * 0)), some (.int x2), some (.int x3), some (.int x4)], [])) (S' := [.ref (49 + 6 * 0), .ref 43]) (h' := (jX (jup f 15 (u0)) g n2 p pa s sa true rp t, z)) rfl).trans ?_
    exact jev_callb (nx := 20) (rest := []) rfl
  · refine (jev_blk 3 (pc' := 19) (L' := ([some (.ref 43), some (.ref (49 + 6 * 1)), some (.int x2), some (.int x3), some (.int x4)], [])) (S' := [.ref (49 + 6 * 1), .ref 43]) (h' := (jX (jup f 15 (u0)) g n2 p pa s sa false rp t, z)) rfl).trans ?_
    exact jev_callb (nx := 20) (rest := []) rfl
  · refine (jev_blk 3 (pc' := 19) (L' := ([some (.ref 43), some (.ref (49 + 6 * 1)), some (.int x2), some (.int x3), some (.int x4)], [])) (S' := [.ref (49 + 6 * 1), .ref 43]) (h' := (jX (jup f 15 (u0)) g n2 p pa s sa true rp t, z)) rfl).trans ?_
    exact jev_callb (nx := 20) (rest := []) rfl
  · refine (jev_blk 3 (pc' := 19) (L' := ([some (.ref 43), some (.ref (49 + 6 * 2)), some (.int x2), some (.int x3), some (.int x4)], [])) (S' := [.ref (49 + 6 * 2), .ref 43]) (h' := (jX (jup f 15 (u0)) g n2 p pa s sa false rp t, z)) rfl).trans ?_
    exact jev_callb (nx := 20) (rest := []) rfl
  · refine (jev_blk 3 (pc' := 19) (L' := ([some (.ref 43), some (.ref (49 + 6 * 2)), some (.int x2), some (.int x3), some (.int x4)], [])) (S' := [.ref (49 + 6 * 2), .ref 43]) (h' := (jX (jup f 15 (u0)) g n2 p pa s sa true rp t, z)) rfl).trans ?_
    exact jev_callb (nx := 20) (rest := []) rfl
set_option maxRecDepth 20000 in
theorem E_h_passHours_20 {D : Nat} {j : Nat} {x2 : Int32} {x3 : Int32} {x4 : Int32} {f : Nat → Int32} {g : Nat → Nat → Int32} {n2 : Nat → Nat → Int64} {p : Nat → Nat → Int32} {pa : Nat → Nat → Nat → Int32} {s : Nat → Nat → Int32} {sa : Nat → Nat → Nat → Int32} {sw : Bool} {rp : Value} {t : List jE} {z : Nat × Nat × Nat × (Nat → Int32)} (hj : j < 3) : jev D 17 20 ([some (.ref 43), some (.ref (49 + 6 * j)), some (.int x2), some (.int x3), some (.int x4)], []) [] (jX f g n2 p pa s sa sw rp t, z) = K_h_passHours_2 D j x2 x3 (x4 + 1) f g n2 p pa s sa sw rp t z := by
  rcases jlt3 hj with rfl | rfl | rfl <;> cases sw
  · exact jev_blk 2 rfl
  · exact jev_blk 2 rfl
  · exact jev_blk 2 rfl
  · exact jev_blk 2 rfl
  · exact jev_blk 2 rfl
  · exact jev_blk 2 rfl
set_option maxRecDepth 20000 in
theorem E_h_passDays {D : Nat} {j : Nat} {a1 : Int32} {f : Nat → Int32} {g : Nat → Nat → Int32} {n2 : Nat → Nat → Int64} {p : Nat → Nat → Int32} {pa : Nat → Nat → Nat → Int32} {s : Nat → Nat → Int32} {sa : Nat → Nat → Nat → Int32} {sw : Bool} {rp : Value} {t : List jE} {z : Nat × Nat × Nat × (Nat → Int32)} (hj : j < 3) : K_h_passDays D j a1 f g n2 p pa s sa sw rp t z = K_h_passDays_9 D j (some (.int a1)) ((a1 * 12) - (s j 1)) 0 f g n2 p pa s sa sw rp t z := by
  rcases jlt3 hj with rfl | rfl | rfl <;> cases sw
  · exact jev_blk 9 rfl
  · exact jev_blk 9 rfl
  · exact jev_blk 9 rfl
  · exact jev_blk 9 rfl
  · exact jev_blk 9 rfl
  · exact jev_blk 9 rfl
set_option maxRecDepth 20000 in
theorem L_h_passDays_9 {D : Nat} {j : Nat} {d2 : Option Value} {x3 : Int32} {x4 : Int32} {f : Nat → Int32} {g : Nat → Nat → Int32} {n2 : Nat → Nat → Int64} {p : Nat → Nat → Int32} {pa : Nat → Nat → Nat → Int32} {s : Nat → Nat → Int32} {sa : Nat → Nat → Nat → Int32} {sw : Bool} {rp : Value} {t : List jE} {z : Nat × Nat × Nat × (Nat → Int32)} (hj : j < 3) : K_h_passDays_9 D j d2 x3 x4 f g n2 p pa s sa sw rp t z = if x4 < x3 then (jbO (K_h_pass D j f g n2 p pa s sa sw rp t z) (jk D 18 15 ([some (.ref 43), some (.ref (49 + 6 * j)), d2, some (.int x3), some (.int x4)], []) [])) else (some (.inl (none), (jX f g n2 p pa s sa sw rp t, z))) := by
  rcases jlt3 hj with rfl | rfl | rfl <;> cases sw
  · refine (jev_blk 3 (pc' := if x4 < x3 then 12 else 17) (L' := ([some (.ref 43), some (.ref (49 + 6 * 0)), d2, some (.int x3), some (.int x4)], [])) (S' := []) (h' := (jX f g n2 p pa s sa false rp t, z)) rfl).trans (jev_ite.trans (jite_congr (fun _ => ?_) (fun _ => ?_)))
    · refine (jev_blk 2 (pc' := 14) (L' := ([some (.ref 43), some (.ref (49 + 6 * 0)), d2, some (.int x3), some (.int x4)], [])) (S' := [.ref (49 + 6 * 0), .ref 43]) (h' := (jX f g n2 p pa s sa false rp t, z)) rfl).trans ?_
      exact jev_callb (nx := 15) (rest := []) rfl
    · exact jev_fin rfl
  · refine (jev_blk 3 (pc' := if x4 < x3 then 12 else 17) (L' := ([some (.ref 43), some (.ref (49 + 6 * 0)), d2, some (.int x3), some (.int x4)], [])) (S' := []) (h' := (jX f g n2 p pa s sa true rp t, z)) rfl).trans (jev_ite.trans (jite_congr (fun _ => ?_) (fun _ => ?_)))
    · refine (jev_blk 2 (pc' := 14) (L' := ([some (.ref 43), some (.ref (49 + 6 * 0)), d2, some (.int x3), some (.int x4)], [])) (S' := [.ref (49 + 6 * 0), .ref 43]) (h' := (jX f g n2 p pa s sa true rp t, z)) rfl).trans ?_
      exact jev_callb (nx := 15) (rest := []) rfl
    · exact jev_fin rfl
  · refine (jev_blk 3 (pc' := if x4 < x3 then 12 else 17) (L' := ([some (.ref 43), some (.ref (49 + 6 * 1)), d2, some (.int x3), some (.int x4)], [])) (S' := []) (h' := (jX f g n2 p pa s sa false rp t, z)) rfl).trans (jev_ite.trans (jite_congr (fun _ => ?_) (fun _ => ?_)))
    · refine (jev_blk 2 (pc' := 14) (L' := ([some (.ref 43), some (.ref (49 + 6 * 1)), d2, some (.int x3), some (.int x4)], [])) (S' := [.ref (49 + 6 * 1), .ref 43]) (h' := (jX f g n2 p pa s sa false rp t, z)) rfl).trans ?_
      exact jev_callb (nx := 15) (rest := []) rfl
    · exact jev_fin rfl
  · refine (jev_blk 3 (pc' := if x4 < x3 then 12 else 17) (L' := ([some (.ref 43), some (.ref (49 + 6 * 1)), d2, some (.int x3), some (.int x4)], [])) (S' := []) (h' := (jX f g n2 p pa s sa true rp t, z)) rfl).trans (jev_ite.trans (jite_congr (fun _ => ?_) (fun _ => ?_)))
    · refine (jev_blk 2 (pc' := 14) (L' := ([some (.ref 43), some (.ref (49 + 6 * 1)), d2, some (.int x3), some (.int x4)], [])) (S' := [.ref (49 + 6 * 1), .ref 43]) (h' := (jX f g n2 p pa s sa true rp t, z)) rfl).trans ?_
      exact jev_callb (nx := 15) (rest := []) rfl
    · exact jev_fin rfl
  · refine (jev_blk 3 (pc' := if x4 < x3 then 12 else 17) (L' := ([some (.ref 43), some (.ref (49 + 6 * 2)), d2, some (.int x3), some (.int x4)], [])) (S' := []) (h' := (jX f g n2 p pa s sa false rp t, z)) rfl).trans (jev_ite.trans (jite_congr (fun _ => ?_) (fun _ => ?_)))
    · refine (jev_blk 2 (pc' := 14) (L' := ([some (.ref 43), some (.ref (49 + 6 * 2)), d2, some (.int x3), some (.int x4)], [])) (S' := [.ref (49 + 6 * 2), .ref 43]) (h' := (jX f g n2 p pa s sa false rp t, z)) rfl).trans ?_
      exact jev_callb (nx := 15) (rest := []) rfl
    · exact jev_fin rfl
  · refine (jev_blk 3 (pc' := if x4 < x3 then 12 else 17) (L' := ([some (.ref 43), some (.ref (49 + 6 * 2)), d2, some (.int x3), some (.int x4)], [])) (S' := []) (h' := (jX f g n2 p pa s sa true rp t, z)) rfl).trans (jev_ite.trans (jite_congr (fun _ => ?_) (fun _ => ?_)))
    · refine (jev_blk 2 (pc' := 14) (L' := ([some (.ref 43), some (.ref (49 + 6 * 2)), d2, some (.int x3), some (.int x4)], [])) (S' := [.ref (49 + 6 * 2), .ref 43]) (h' := (jX f g n2 p pa s sa true rp t, z)) rfl).trans ?_
      exact jev_callb (nx := 15) (rest := []) rfl
    · exact jev_fin rfl
set_option maxRecDepth 20000 in
theorem E_h_passDays_15 {D : Nat} {j : Nat} {d2 : Option Value} {x3 : Int32} {x4 : Int32} {f : Nat → Int32} {g : Nat → Nat → Int32} {n2 : Nat → Nat → Int64} {p : Nat → Nat → Int32} {pa : Nat → Nat → Nat → Int32} {s : Nat → Nat → Int32} {sa : Nat → Nat → Nat → Int32} {sw : Bool} {rp : Value} {t : List jE} {z : Nat × Nat × Nat × (Nat → Int32)} (hj : j < 3) : jev D 18 15 ([some (.ref 43), some (.ref (49 + 6 * j)), d2, some (.int x3), some (.int x4)], []) [] (jX f g n2 p pa s sa sw rp t, z) = K_h_passDays_9 D j d2 x3 (x4 + 1) f g n2 p pa s sa sw rp t z := by
  rcases jlt3 hj with rfl | rfl | rfl <;> cases sw
  · exact jev_blk 2 rfl
  · exact jev_blk 2 rfl
  · exact jev_blk 2 rfl
  · exact jev_blk 2 rfl
  · exact jev_blk 2 rfl
  · exact jev_blk 2 rfl
