-- EQUATIONS: one a block; E_ unfolds, L_ a loop's head
set_option maxRecDepth 20000 in
theorem E_h_remember {D : Nat}  {a0 : Int32} {f : Nat → Int32} {g : Nat → Nat → Int32} {n2 : Nat → Nat → Int64} {p : Nat → Nat → Int32} {pa : Nat → Nat → Nat → Int32} {s : Nat → Nat → Int32} {sa : Nat → Nat → Nat → Int32} {sw : Bool} {rp : Value} {t : List jE} {z : Nat × Nat × Nat × (Nat → Int32)}  : K_h_remember D a0 f g n2 p pa s sa sw rp t z = if a0 = 0 ∨ a0 = 1 then (if a0 = 0 then (some (.inl (none), (jX (jup (jup f 14 (a0)) 15 ((-1))) g n2 p pa s sa sw rp t, z))) else (jbO (K_j_fill_memo D (-1) (jup (jup f 14 (a0)) 15 ((-1))) g n2 p pa s sa sw rp t z) (jk D 1 12 ([some (.ref 43), some (.int a0)], []) []))) else none := by
  cases sw
  · refine (jev_blk 2 (pc' := 2) (L' := ([some (.ref 43), some (.int a0)], [])) (S' := [.int a0, .ref 43]) (h' := (jX f g n2 p pa s sa false rp t, z)) rfl).trans ?_
    refine (jev_grp (q := a0 = 0 ∨ a0 = 1) (pc' := 3) (L' := ([some (.ref 43), some (.int a0)], [])) (S' := []) (h' := (jX (jup f 14 (a0)) g n2 p pa s sa false rp t, z)) rfl).trans (jite_congr (fun _ => ?_) (fun _ => rfl))
    refine (jev_blk 5 (pc' := if a0 = 0 then 12 else 8) (L' := ([some (.ref 43), some (.int a0)], [])) (S' := []) (h' := (jX (jup (jup f 14 (a0)) 15 ((-1))) g n2 p pa s sa false rp t, z)) rfl).trans (jev_ite.trans (jite_congr (fun _ => ?_) (fun _ => ?_)))
    · exact jev_fin rfl
    · refine (jev_blk 3 (pc' := 11) (L' := ([some (.ref 43), some (.int a0)], [])) (S' := [.int (-1), .ref 48]) (h' := (jX (jup (jup f 14 (a0)) 15 ((-1))) g n2 p pa s sa false rp t, z)) rfl).trans ?_
      exact jev_callb (nx := 12) (rest := []) rfl
  · refine (jev_blk 2 (pc' := 2) (L' := ([some (.ref 43), some (.int a0)], [])) (S' := [.int a0, .ref 43]) (h' := (jX f g n2 p pa s sa true rp t, z)) rfl).trans ?_
    refine (jev_grp (q := a0 = 0 ∨ a0 = 1) (pc' := 3) (L' := ([some (.ref 43), some (.int a0)], [])) (S' := []) (h' := (jX (jup f 14 (a0)) g n2 p pa s sa true rp t, z)) rfl).trans (jite_congr (fun _ => ?_) (fun _ => rfl))
    refine (jev_blk 5 (pc' := if a0 = 0 then 12 else 8) (L' := ([some (.ref 43), some (.int a0)], [])) (S' := []) (h' := (jX (jup (jup f 14 (a0)) 15 ((-1))) g n2 p pa s sa true rp t, z)) rfl).trans (jev_ite.trans (jite_congr (fun _ => ?_) (fun _ => ?_)))
    · exact jev_fin rfl
    · refine (jev_blk 3 (pc' := 11) (L' := ([some (.ref 43), some (.int a0)], [])) (S' := [.int (-1), .ref 48]) (h' := (jX (jup (jup f 14 (a0)) 15 ((-1))) g n2 p pa s sa true rp t, z)) rfl).trans ?_
      exact jev_callb (nx := 12) (rest := []) rfl
set_option maxRecDepth 20000 in
theorem E_h_remember_12 {D : Nat}  {d1 : Option Value} {f : Nat → Int32} {g : Nat → Nat → Int32} {n2 : Nat → Nat → Int64} {p : Nat → Nat → Int32} {pa : Nat → Nat → Nat → Int32} {s : Nat → Nat → Int32} {sa : Nat → Nat → Nat → Int32} {sw : Bool} {rp : Value} {t : List jE} {z : Nat × Nat × Nat × (Nat → Int32)}  : jev D 1 12 ([some (.ref 43), d1], []) [] (jX f g n2 p pa s sa sw rp t, z) = some (.inl (none), (jX f g n2 p pa s sa sw rp t, z)) := by
  cases sw
  · exact jev_fin rfl
  · exact jev_fin rfl
set_option maxRecDepth 20000 in
theorem E_h_windOn {D : Nat}  {a0 : Int32} {f : Nat → Int32} {g : Nat → Nat → Int32} {n2 : Nat → Nat → Int64} {p : Nat → Nat → Int32} {pa : Nat → Nat → Nat → Int32} {s : Nat → Nat → Int32} {sa : Nat → Nat → Nat → Int32} {sw : Bool} {rp : Value} {t : List jE} {z : Nat × Nat × Nat × (Nat → Int32)}  : K_h_windOn D a0 f g n2 p pa s sa sw rp t z = if (f 21) = 0 then (K_h_windOn_23 D a0 (some (.int ((a0 - (f 22)) - 1))) f g n2 p pa s sa sw rp t z) else (if ((a0 - (f 22)) - 1) < 0 then (K_h_windOn_23 D a0 (some (.int ((a0 - (f 22)) - 1))) f g n2 p pa s sa sw rp t z) else (if ((a0 - (f 22)) - 1) < 9 then (if jout ((a0 - (f 22)) - 1) 9 then none else (some (.inl (some (.int (g 2 ((a0 - (f 22)) - 1).toNatClampNeg))), (jX f g n2 p pa s sa sw rp t, z)))) else (K_h_windOn_23 D a0 (some (.int ((a0 - (f 22)) - 1))) f g n2 p pa s sa sw rp t z))) := by
  cases sw
  · refine (jev_blk 12 (pc' := if (f 21) = 0 then 23 else 12) (L' := ([some (.ref 43), some (.int a0), some (.int ((a0 - (f 22)) - 1))], [])) (S' := []) (h' := (jX f g n2 p pa s sa false rp t, z)) rfl).trans (jev_ite.trans (jite_congr (fun _ => ?_) (fun _ => ?_)))
    · rfl
    · refine (jev_blk 2 (pc' := if ((a0 - (f 22)) - 1) < 0 then 23 else 14) (L' := ([some (.ref 43), some (.int a0), some (.int ((a0 - (f 22)) - 1))], [])) (S' := []) (h' := (jX f g n2 p pa s sa false rp t, z)) rfl).trans (jev_ite.trans (jite_congr (fun _ => ?_) (fun _ => ?_)))
      · rfl
      · refine (jev_blk 3 (pc' := if ((a0 - (f 22)) - 1) < 9 then 17 else 23) (L' := ([some (.ref 43), some (.int a0), some (.int ((a0 - (f 22)) - 1))], [])) (S' := []) (h' := (jX f g n2 p pa s sa false rp t, z)) rfl).trans (jev_ite.trans (jite_congr (fun _ => ?_) (fun _ => ?_)))
        · refine (jev_blk 4 (pc' := 21) (L' := ([some (.ref 43), some (.int a0), some (.int ((a0 - (f 22)) - 1))], [])) (S' := [.int ((a0 - (f 22)) - 1), .ref 45]) (h' := (jX f g n2 p pa s sa false rp t, z)) rfl).trans ?_
          refine (jev_grd (q := jout ((a0 - (f 22)) - 1) 9) (pc' := 22) (L' := ([some (.ref 43), some (.int a0), some (.int ((a0 - (f 22)) - 1))], [])) (S' := [.int (g 2 ((a0 - (f 22)) - 1).toNatClampNeg)]) (h' := (jX f g n2 p pa s sa false rp t, z)) rfl).trans (jite_congr (fun _ => rfl) (fun _ => ?_))
          refine (jev_blk 1 (pc' := 27) (L' := ([some (.ref 43), some (.int a0), some (.int ((a0 - (f 22)) - 1))], [])) (S' := [.int (g 2 ((a0 - (f 22)) - 1).toNatClampNeg)]) (h' := (jX f g n2 p pa s sa false rp t, z)) rfl).trans ?_
          exact jev_fin rfl
        · rfl
  · refine (jev_blk 12 (pc' := if (f 21) = 0 then 23 else 12) (L' := ([some (.ref 43), some (.int a0), some (.int ((a0 - (f 22)) - 1))], [])) (S' := []) (h' := (jX f g n2 p pa s sa true rp t, z)) rfl).trans (jev_ite.trans (jite_congr (fun _ => ?_) (fun _ => ?_)))
    · rfl
    · refine (jev_blk 2 (pc' := if ((a0 - (f 22)) - 1) < 0 then 23 else 14) (L' := ([some (.ref 43), some (.int a0), some (.int ((a0 - (f 22)) - 1))], [])) (S' := []) (h' := (jX f g n2 p pa s sa true rp t, z)) rfl).trans (jev_ite.trans (jite_congr (fun _ => ?_) (fun _ => ?_)))
      · rfl
      · refine (jev_blk 3 (pc' := if ((a0 - (f 22)) - 1) < 9 then 17 else 23) (L' := ([some (.ref 43), some (.int a0), some (.int ((a0 - (f 22)) - 1))], [])) (S' := []) (h' := (jX f g n2 p pa s sa true rp t, z)) rfl).trans (jev_ite.trans (jite_congr (fun _ => ?_) (fun _ => ?_)))
        · refine (jev_blk 4 (pc' := 21) (L' := ([some (.ref 43), some (.int a0), some (.int ((a0 - (f 22)) - 1))], [])) (S' := [.int ((a0 - (f 22)) - 1), .ref 45]) (h' := (jX f g n2 p pa s sa true rp t, z)) rfl).trans ?_
          refine (jev_grd (q := jout ((a0 - (f 22)) - 1) 9) (pc' := 22) (L' := ([some (.ref 43), some (.int a0), some (.int ((a0 - (f 22)) - 1))], [])) (S' := [.int (g 2 ((a0 - (f 22)) - 1).toNatClampNeg)]) (h' := (jX f g n2 p pa s sa true rp t, z)) rfl).trans (jite_congr (fun _ => rfl) (fun _ => ?_))
          refine (jev_blk 1 (pc' := 27) (L' := ([some (.ref 43), some (.int a0), some (.int ((a0 - (f 22)) - 1))], [])) (S' := [.int (g 2 ((a0 - (f 22)) - 1).toNatClampNeg)]) (h' := (jX f g n2 p pa s sa true rp t, z)) rfl).trans ?_
          exact jev_fin rfl
        · rfl
set_option maxRecDepth 20000 in
theorem E_h_windOn_23 {D : Nat}  {x1 : Int32} {d2 : Option Value} {f : Nat → Int32} {g : Nat → Nat → Int32} {n2 : Nat → Nat → Int64} {p : Nat → Nat → Int32} {pa : Nat → Nat → Nat → Int32} {s : Nat → Nat → Int32} {sa : Nat → Nat → Nat → Int32} {sw : Bool} {rp : Value} {t : List jE} {z : Nat × Nat × Nat × (Nat → Int32)}  : K_h_windOn_23 D x1 d2 f g n2 p pa s sa sw rp t z = jbO (K_p_windOf D sw x1 f g n2 p pa s sa sw rp t z) (jk D 2 27 ([some (.ref 43), some (.int x1), d2], []) []) := by
  cases sw
  · refine (jev_blk 3 (pc' := 26) (L' := ([some (.ref 43), some (.int x1), d2], [])) (S' := [.int x1, .ref (jpl false)]) (h' := (jX f g n2 p pa s sa false rp t, z)) rfl).trans ?_
    exact jev_callb (nx := 27) (rest := []) rfl
  · refine (jev_blk 3 (pc' := 26) (L' := ([some (.ref 43), some (.int x1), d2], [])) (S' := [.int x1, .ref (jpl true)]) (h' := (jX f g n2 p pa s sa true rp t, z)) rfl).trans ?_
    exact jev_callb (nx := 27) (rest := []) rfl
set_option maxRecDepth 20000 in
theorem E_h_windOn_27 {D : Nat}  {d1 : Option Value} {d2 : Option Value} {u0 : Int32} {f : Nat → Int32} {g : Nat → Nat → Int32} {n2 : Nat → Nat → Int64} {p : Nat → Nat → Int32} {pa : Nat → Nat → Nat → Int32} {s : Nat → Nat → Int32} {sa : Nat → Nat → Nat → Int32} {sw : Bool} {rp : Value} {t : List jE} {z : Nat × Nat × Nat × (Nat → Int32)}  : jev D 2 27 ([some (.ref 43), d1, d2], []) [.int u0] (jX f g n2 p pa s sa sw rp t, z) = some (.inl (some (.int u0)), (jX f g n2 p pa s sa sw rp t, z)) := by
  cases sw
  · exact jev_fin rfl
  · exact jev_fin rfl
set_option maxRecDepth 20000 in
theorem E_h_flapping {D : Nat} {j : Nat} {a1 : Int32} {f : Nat → Int32} {g : Nat → Nat → Int32} {n2 : Nat → Nat → Int64} {p : Nat → Nat → Int32} {pa : Nat → Nat → Nat → Int32} {s : Nat → Nat → Int32} {sa : Nat → Nat → Nat → Int32} {sw : Bool} {rp : Value} {t : List jE} {z : Nat × Nat × Nat × (Nat → Int32)} (hj : j < 3) : K_h_flapping D j a1 f g n2 p pa s sa sw rp t z = if (((f 17) >>> (a1 &&& 31)) &&& 1) = 0 then (if (f 19) = 0 then (if (f 20) = 0 then (K_h_flapping_25 D j a1 none (p (jq sw) 6) f g n2 p pa s sa sw rp t z) else (K_h_flapping_25 D j a1 none 12 f g n2 p pa s sa sw rp t z)) else (some (.inl (some (.int 2)), (jX f g n2 p pa s sa sw rp t, z)))) else (some (.inl (some (.int 0)), (jX f g n2 p pa s sa sw rp t, z))) := by
  rcases jlt3 hj with rfl | rfl | rfl <;> cases sw
  · refine (jev_blk 8 (pc' := if (((f 17) >>> (a1 &&& 31)) &&& 1) = 0 then 10 else 8) (L' := ([some (.ref 43), some (.ref (49 + 6 * 0)), some (.int a1), none], [])) (S' := []) (h' := (jX f g n2 p pa s sa false rp t, z)) rfl).trans (jev_ite.trans (jite_congr (fun _ => ?_) (fun _ => ?_)))
    · refine (jev_blk 4 (pc' := if (f 19) = 0 then 16 else 14) (L' := ([some (.ref 43), some (.ref (49 + 6 * 0)), some (.int a1), none], [])) (S' := []) (h' := (jX f g n2 p pa s sa false rp t, z)) rfl).trans (jev_ite.trans (jite_congr (fun _ => ?_) (fun _ => ?_)))
      · refine (jev_blk 4 (pc' := if (f 20) = 0 then 22 else 20) (L' := ([some (.ref 43), some (.ref (49 + 6 * 0)), some (.int a1), none], [])) (S' := []) (h' := (jX f g n2 p pa s sa false rp t, z)) rfl).trans (jev_ite.trans (jite_congr (fun _ => ?_) (fun _ => ?_)))
        · exact jev_blk 3 rfl
        · exact jev_blk 2 rfl
      · refine (jev_blk 1 (pc' := 15) (L' := ([some (.ref 43), some (.ref (49 + 6 * 0)), some (.int a1), none], [])) (S' := [.int 2]) (h' := (jX f g n2 p pa s sa false rp t, z)) rfl).trans ?_
        exact jev_fin rfl
    · refine (jev_blk 1 (pc' := 9) (L' := ([some (.ref 43), some (.ref (49 + 6 * 0)), some (.int a1), none], [])) (S' := [.int 0]) (h' := (jX f g n2 p pa s sa false rp t, z)) rfl).trans ?_
      exact jev_fin rfl
  · refine (jev_blk 8 (pc' := if (((f 17) >>> (a1 &&& 31)) &&& 1) = 0 then 10 else 8) (L' := ([some (.ref 43), some (.ref (49 + 6 * 0)), some (.int a1), none], [])) (S' := []) (h' := (jX f g n2 p pa s sa true rp t, z)) rfl).trans (jev_ite.trans (jite_congr (fun _ => ?_) (fun _ => ?_)))
    · refine (jev_blk 4 (pc' := if (f 19) = 0 then 16 else 14) (L' := ([some (.ref 43), some (.ref (49 + 6 * 0)), some (.int a1), none], [])) (S' := []) (h' := (jX f g n2 p pa s sa true rp t, z)) rfl).trans (jev_ite.trans (jite_congr (fun _ => ?_) (fun _ => ?_)))
      · refine (jev_blk 4 (pc' := if (f 20) = 0 then 22 else 20) (L' := ([some (.ref 43), some (.ref (49 + 6 * 0)), some (.int a1), none], [])) (S' := []) (h' := (jX f g n2 p pa s sa true rp t, z)) rfl).trans (jev_ite.trans (jite_congr (fun _ => ?_) (fun _ => ?_)))
        · exact jev_blk 3 rfl
        · exact jev_blk 2 rfl
      · refine (jev_blk 1 (pc' := 15) (L' := ([some (.ref 43), some (.ref (49 + 6 * 0)), some (.int a1), none], [])) (S' := [.int 2]) (h' := (jX f g n2 p pa s sa true rp t, z)) rfl).trans ?_
        exact jev_fin rfl
    · refine (jev_blk 1 (pc' := 9) (L' := ([some (.ref 43), some (.ref (49 + 6 * 0)), some (.int a1), none], [])) (S' := [.int 0]) (h' := (jX f g n2 p pa s sa true rp t, z)) rfl).trans ?_
      exact jev_fin rfl
  · refine (jev_blk 8 (pc' := if (((f 17) >>> (a1 &&& 31)) &&& 1) = 0 then 10 else 8) (L' := ([some (.ref 43), some (.ref (49 + 6 * 1)), some (.int a1), none], [])) (S' := []) (h' := (jX f g n2 p pa s sa false rp t, z)) rfl).trans (jev_ite.trans (jite_congr (fun _ => ?_) (fun _ => ?_)))
    · refine (jev_blk 4 (pc' := if (f 19) = 0 then 16 else 14) (L' := ([some (.ref 43), some (.ref (49 + 6 * 1)), some (.int a1), none], [])) (S' := []) (h' := (jX f g n2 p pa s sa false rp t, z)) rfl).trans (jev_ite.trans (jite_congr (fun _ => ?_) (fun _ => ?_)))
      · refine (jev_blk 4 (pc' := if (f 20) = 0 then 22 else 20) (L' := ([some (.ref 43), some (.ref (49 + 6 * 1)), some (.int a1), none], [])) (S' := []) (h' := (jX f g n2 p pa s sa false rp t, z)) rfl).trans (jev_ite.trans (jite_congr (fun _ => ?_) (fun _ => ?_)))
        · exact jev_blk 3 rfl
        · exact jev_blk 2 rfl
      · refine (jev_blk 1 (pc' := 15) (L' := ([some (.ref 43), some (.ref (49 + 6 * 1)), some (.int a1), none], [])) (S' := [.int 2]) (h' := (jX f g n2 p pa s sa false rp t, z)) rfl).trans ?_
        exact jev_fin rfl
    · refine (jev_blk 1 (pc' := 9) (L' := ([some (.ref 43), some (.ref (49 + 6 * 1)), some (.int a1), none], [])) (S' := [.int 0]) (h' := (jX f g n2 p pa s sa false rp t, z)) rfl).trans ?_
      exact jev_fin rfl
  · refine (jev_blk 8 (pc' := if (((f 17) >>> (a1 &&& 31)) &&& 1) = 0 then 10 else 8) (L' := ([some (.ref 43), some (.ref (49 + 6 * 1)), some (.int a1), none], [])) (S' := []) (h' := (jX f g n2 p pa s sa true rp t, z)) rfl).trans (jev_ite.trans (jite_congr (fun _ => ?_) (fun _ => ?_)))
    · refine (jev_blk 4 (pc' := if (f 19) = 0 then 16 else 14) (L' := ([some (.ref 43), some (.ref (49 + 6 * 1)), some (.int a1), none], [])) (S' := []) (h' := (jX f g n2 p pa s sa true rp t, z)) rfl).trans (jev_ite.trans (jite_congr (fun _ => ?_) (fun _ => ?_)))
      · refine (jev_blk 4 (pc' := if (f 20) = 0 then 22 else 20) (L' := ([some (.ref 43), some (.ref (49 + 6 * 1)), some (.int a1), none], [])) (S' := []) (h' := (jX f g n2 p pa s sa true rp t, z)) rfl).trans (jev_ite.trans (jite_congr (fun _ => ?_) (fun _ => ?_)))
        · exact jev_blk 3 rfl
        · exact jev_blk 2 rfl
      · refine (jev_blk 1 (pc' := 15) (L' := ([some (.ref 43), some (.ref (49 + 6 * 1)), some (.int a1), none], [])) (S' := [.int 2]) (h' := (jX f g n2 p pa s sa true rp t, z)) rfl).trans ?_
        exact jev_fin rfl
    · refine (jev_blk 1 (pc' := 9) (L' := ([some (.ref 43), some (.ref (49 + 6 * 1)), some (.int a1), none], [])) (S' := [.int 0]) (h' := (jX f g n2 p pa s sa true rp t, z)) rfl).trans ?_
      exact jev_fin rfl
  · refine (jev_blk 8 (pc' := if (((f 17) >>> (a1 &&& 31)) &&& 1) = 0 then 10 else 8) (L' := ([some (.ref 43), some (.ref (49 + 6 * 2)), some (.int a1), none], [])) (S' := []) (h' := (jX f g n2 p pa s sa false rp t, z)) rfl).trans (jev_ite.trans (jite_congr (fun _ => ?_) (fun _ => ?_)))
    · refine (jev_blk 4 (pc' := if (f 19) = 0 then 16 else 14) (L' := ([some (.ref 43), some (.ref (49 + 6 * 2)), some (.int a1), none], [])) (S' := []) (h' := (jX f g n2 p pa s sa false rp t, z)) rfl).trans (jev_ite.trans (jite_congr (fun _ => ?_) (fun _ => ?_)))
      · refine (jev_blk 4 (pc' := if (f 20) = 0 then 22 else 20) (L' := ([some (.ref 43), some (.ref (49 + 6 * 2)), some (.int a1), none], [])) (S' := []) (h' := (jX f g n2 p pa s sa false rp t, z)) rfl).trans (jev_ite.trans (jite_congr (fun _ => ?_) (fun _ => ?_)))
        · exact jev_blk 3 rfl
        · exact jev_blk 2 rfl
      · refine (jev_blk 1 (pc' := 15) (L' := ([some (.ref 43), some (.ref (49 + 6 * 2)), some (.int a1), none], [])) (S' := [.int 2]) (h' := (jX f g n2 p pa s sa false rp t, z)) rfl).trans ?_
        exact jev_fin rfl
    · refine (jev_blk 1 (pc' := 9) (L' := ([some (.ref 43), some (.ref (49 + 6 * 2)), some (.int a1), none], [])) (S' := [.int 0]) (h' := (jX f g n2 p pa s sa false rp t, z)) rfl).trans ?_
      exact jev_fin rfl
  · refine (jev_blk 8 (pc' := if (((f 17) >>> (a1 &&& 31)) &&& 1) = 0 then 10 else 8) (L' := ([some (.ref 43), some (.ref (49 + 6 * 2)), some (.int a1), none], [])) (S' := []) (h' := (jX f g n2 p pa s sa true rp t, z)) rfl).trans (jev_ite.trans (jite_congr (fun _ => ?_) (fun _ => ?_)))
    · refine (jev_blk 4 (pc' := if (f 19) = 0 then 16 else 14) (L' := ([some (.ref 43), some (.ref (49 + 6 * 2)), some (.int a1), none], [])) (S' := []) (h' := (jX f g n2 p pa s sa true rp t, z)) rfl).trans (jev_ite.trans (jite_congr (fun _ => ?_) (fun _ => ?_)))
      · refine (jev_blk 4 (pc' := if (f 20) = 0 then 22 else 20) (L' := ([some (.ref 43), some (.ref (49 + 6 * 2)), some (.int a1), none], [])) (S' := []) (h' := (jX f g n2 p pa s sa true rp t, z)) rfl).trans (jev_ite.trans (jite_congr (fun _ => ?_) (fun _ => ?_)))
        · exact jev_blk 3 rfl
        · exact jev_blk 2 rfl
      · refine (jev_blk 1 (pc' := 15) (L' := ([some (.ref 43), some (.ref (49 + 6 * 2)), some (.int a1), none], [])) (S' := [.int 2]) (h' := (jX f g n2 p pa s sa true rp t, z)) rfl).trans ?_
        exact jev_fin rfl
    · refine (jev_blk 1 (pc' := 9) (L' := ([some (.ref 43), some (.ref (49 + 6 * 2)), some (.int a1), none], [])) (S' := [.int 0]) (h' := (jX f g n2 p pa s sa true rp t, z)) rfl).trans ?_
      exact jev_fin rfl
set_option maxRecDepth 20000 in
theorem E_h_flapping_25 {D : Nat} {j : Nat} {x2 : Int32} {d3 : Option Value} {u0 : Int32} {f : Nat → Int32} {g : Nat → Nat → Int32} {n2 : Nat → Nat → Int64} {p : Nat → Nat → Int32} {pa : Nat → Nat → Nat → Int32} {s : Nat → Nat → Int32} {sa : Nat → Nat → Nat → Int32} {sw : Bool} {rp : Value} {t : List jE} {z : Nat × Nat × Nat × (Nat → Int32)} (hj : j < 3) : K_h_flapping_25 D j x2 d3 u0 f g n2 p pa s sa sw rp t z = jbO (K_s_onRota D j x2 f g n2 p pa s sa sw rp t z) (jk D 3 29 ([some (.ref 43), some (.ref (49 + 6 * j)), some (.int x2), some (.int u0)], []) []) := by
  rcases jlt3 hj with rfl | rfl | rfl <;> cases sw
  · refine (jev_blk 3 (pc' := 28) (L' := ([some (.ref 43), some (.ref (49 + 6 * 0)), some (.int x2), some (.int u0)], [])) (S' := [.int x2, .ref (49 + 6 * 0)]) (h' := (jX f g n2 p pa s sa false rp t, z)) rfl).trans ?_
    exact jev_callb (nx := 29) (rest := []) rfl
  · refine (jev_blk 3 (pc' := 28) (L' := ([some (.ref 43), some (.ref (49 + 6 * 0)), some (.int x2), some (.int u0)], [])) (S' := [.int x2, .ref (49 + 6 * 0)]) (h' := (jX f g n2 p pa s sa true rp t, z)) rfl).trans ?_
    exact jev_callb (nx := 29) (rest := []) rfl
  · refine (jev_blk 3 (pc' := 28) (L' := ([some (.ref 43), some (.ref (49 + 6 * 1)), some (.int x2), some (.int u0)], [])) (S' := [.int x2, .ref (49 + 6 * 1)]) (h' := (jX f g n2 p pa s sa false rp t, z)) rfl).trans ?_
    exact jev_callb (nx := 29) (rest := []) rfl
  · refine (jev_blk 3 (pc' := 28) (L' := ([some (.ref 43), some (.ref (49 + 6 * 1)), some (.int x2), some (.int u0)], [])) (S' := [.int x2, .ref (49 + 6 * 1)]) (h' := (jX f g n2 p pa s sa true rp t, z)) rfl).trans ?_
    exact jev_callb (nx := 29) (rest := []) rfl
  · refine (jev_blk 3 (pc' := 28) (L' := ([some (.ref 43), some (.ref (49 + 6 * 2)), some (.int x2), some (.int u0)], [])) (S' := [.int x2, .ref (49 + 6 * 2)]) (h' := (jX f g n2 p pa s sa false rp t, z)) rfl).trans ?_
    exact jev_callb (nx := 29) (rest := []) rfl
  · refine (jev_blk 3 (pc' := 28) (L' := ([some (.ref 43), some (.ref (49 + 6 * 2)), some (.int x2), some (.int u0)], [])) (S' := [.int x2, .ref (49 + 6 * 2)]) (h' := (jX f g n2 p pa s sa true rp t, z)) rfl).trans ?_
    exact jev_callb (nx := 29) (rest := []) rfl
set_option maxRecDepth 20000 in
theorem E_h_flapping_29 {D : Nat} {j : Nat} {x2 : Int32} {x3 : Int32} {u0 : Int32} {f : Nat → Int32} {g : Nat → Nat → Int32} {n2 : Nat → Nat → Int64} {p : Nat → Nat → Int32} {pa : Nat → Nat → Nat → Int32} {s : Nat → Nat → Int32} {sa : Nat → Nat → Nat → Int32} {sw : Bool} {rp : Value} {t : List jE} {z : Nat × Nat × Nat × (Nat → Int32)} (hj : j < 3) : jev D 3 29 ([some (.ref 43), some (.ref (49 + 6 * j)), some (.int x2), some (.int x3)], []) [.int u0] (jX f g n2 p pa s sa sw rp t, z) = if u0 = 0 then (K_h_flapping_42 D j (some (.int x2)) (some (.int x3)) f g n2 p pa s sa sw rp t z) else (jbO (K_s_onStrike D j x2 f g n2 p pa s sa sw rp t z) (jk D 3 33 ([some (.ref 43), some (.ref (49 + 6 * j)), some (.int x2), some (.int x3)], []) [])) := by
  rcases jlt3 hj with rfl | rfl | rfl <;> cases sw
  · refine (jev_blk 1 (pc' := if u0 = 0 then 42 else 30) (L' := ([some (.ref 43), some (.ref (49 + 6 * 0)), some (.int x2), some (.int x3)], [])) (S' := []) (h' := (jX f g n2 p pa s sa false rp t, z)) rfl).trans (jev_ite.trans (jite_congr (fun _ => ?_) (fun _ => ?_)))
    · rfl
    · refine (jev_blk 2 (pc' := 32) (L' := ([some (.ref 43), some (.ref (49 + 6 * 0)), some (.int x2), some (.int x3)], [])) (S' := [.int x2, .ref (49 + 6 * 0)]) (h' := (jX f g n2 p pa s sa false rp t, z)) rfl).trans ?_
      exact jev_callb (nx := 33) (rest := []) rfl
  · refine (jev_blk 1 (pc' := if u0 = 0 then 42 else 30) (L' := ([some (.ref 43), some (.ref (49 + 6 * 0)), some (.int x2), some (.int x3)], [])) (S' := []) (h' := (jX f g n2 p pa s sa true rp t, z)) rfl).trans (jev_ite.trans (jite_congr (fun _ => ?_) (fun _ => ?_)))
    · rfl
    · refine (jev_blk 2 (pc' := 32) (L' := ([some (.ref 43), some (.ref (49 + 6 * 0)), some (.int x2), some (.int x3)], [])) (S' := [.int x2, .ref (49 + 6 * 0)]) (h' := (jX f g n2 p pa s sa true rp t, z)) rfl).trans ?_
      exact jev_callb (nx := 33) (rest := []) rfl
  · refine (jev_blk 1 (pc' := if u0 = 0 then 42 else 30) (L' := ([some (.ref 43), some (.ref (49 + 6 * 1)), some (.int x2), some (.int x3)], [])) (S' := []) (h' := (jX f g n2 p pa s sa false rp t, z)) rfl).trans (jev_ite.trans (jite_congr (fun _ => ?_) (fun _ => ?_)))
    · rfl
    · refine (jev_blk 2 (pc' := 32) (L' := ([some (.ref 43), some (.ref (49 + 6 * 1)), some (.int x2), some (.int x3)], [])) (S' := [.int x2, .ref (49 + 6 * 1)]) (h' := (jX f g n2 p pa s sa false rp t, z)) rfl).trans ?_
      exact jev_callb (nx := 33) (rest := []) rfl
  · refine (jev_blk 1 (pc' := if u0 = 0 then 42 else 30) (L' := ([some (.ref 43), some (.ref (49 + 6 * 1)), some (.int x2), some (.int x3)], [])) (S' := []) (h' := (jX f g n2 p pa s sa true rp t, z)) rfl).trans (jev_ite.trans (jite_congr (fun _ => ?_) (fun _ => ?_)))
    · rfl
    · refine (jev_blk 2 (pc' := 32) (L' := ([some (.ref 43), some (.ref (49 + 6 * 1)), some (.int x2), some (.int x3)], [])) (S' := [.int x2, .ref (49 + 6 * 1)]) (h' := (jX f g n2 p pa s sa true rp t, z)) rfl).trans ?_
      exact jev_callb (nx := 33) (rest := []) rfl
  · refine (jev_blk 1 (pc' := if u0 = 0 then 42 else 30) (L' := ([some (.ref 43), some (.ref (49 + 6 * 2)), some (.int x2), some (.int x3)], [])) (S' := []) (h' := (jX f g n2 p pa s sa false rp t, z)) rfl).trans (jev_ite.trans (jite_congr (fun _ => ?_) (fun _ => ?_)))
    · rfl
    · refine (jev_blk 2 (pc' := 32) (L' := ([some (.ref 43), some (.ref (49 + 6 * 2)), some (.int x2), some (.int x3)], [])) (S' := [.int x2, .ref (49 + 6 * 2)]) (h' := (jX f g n2 p pa s sa false rp t, z)) rfl).trans ?_
      exact jev_callb (nx := 33) (rest := []) rfl
  · refine (jev_blk 1 (pc' := if u0 = 0 then 42 else 30) (L' := ([some (.ref 43), some (.ref (49 + 6 * 2)), some (.int x2), some (.int x3)], [])) (S' := []) (h' := (jX f g n2 p pa s sa true rp t, z)) rfl).trans (jev_ite.trans (jite_congr (fun _ => ?_) (fun _ => ?_)))
    · rfl
    · refine (jev_blk 2 (pc' := 32) (L' := ([some (.ref 43), some (.ref (49 + 6 * 2)), some (.int x2), some (.int x3)], [])) (S' := [.int x2, .ref (49 + 6 * 2)]) (h' := (jX f g n2 p pa s sa true rp t, z)) rfl).trans ?_
      exact jev_callb (nx := 33) (rest := []) rfl
set_option maxRecDepth 20000 in
theorem E_h_flapping_42 {D : Nat} {j : Nat} {d2 : Option Value} {d3 : Option Value} {f : Nat → Int32} {g : Nat → Nat → Int32} {n2 : Nat → Nat → Int64} {p : Nat → Nat → Int32} {pa : Nat → Nat → Nat → Int32} {s : Nat → Nat → Int32} {sa : Nat → Nat → Nat → Int32} {sw : Bool} {rp : Value} {t : List jE} {z : Nat × Nat × Nat × (Nat → Int32)} (hj : j < 3) : K_h_flapping_42 D j d2 d3 f g n2 p pa s sa sw rp t z = jbO (K_h_windOn D (s j 0) f g n2 p pa s sa sw rp t z) (jk D 3 46 ([some (.ref 43), some (.ref (49 + 6 * j)), d2, d3], []) []) := by
  rcases jlt3 hj with rfl | rfl | rfl <;> cases sw
  · refine (jev_blk 3 (pc' := 45) (L' := ([some (.ref 43), some (.ref (49 + 6 * 0)), d2, d3], [])) (S' := [.int (s 0 0), .ref 43]) (h' := (jX f g n2 p pa s sa false rp t, z)) rfl).trans ?_
    exact jev_callb (nx := 46) (rest := []) rfl
  · refine (jev_blk 3 (pc' := 45) (L' := ([some (.ref 43), some (.ref (49 + 6 * 0)), d2, d3], [])) (S' := [.int (s 0 0), .ref 43]) (h' := (jX f g n2 p pa s sa true rp t, z)) rfl).trans ?_
    exact jev_callb (nx := 46) (rest := []) rfl
  · refine (jev_blk 3 (pc' := 45) (L' := ([some (.ref 43), some (.ref (49 + 6 * 1)), d2, d3], [])) (S' := [.int (s 1 0), .ref 43]) (h' := (jX f g n2 p pa s sa false rp t, z)) rfl).trans ?_
    exact jev_callb (nx := 46) (rest := []) rfl
  · refine (jev_blk 3 (pc' := 45) (L' := ([some (.ref 43), some (.ref (49 + 6 * 1)), d2, d3], [])) (S' := [.int (s 1 0), .ref 43]) (h' := (jX f g n2 p pa s sa true rp t, z)) rfl).trans ?_
    exact jev_callb (nx := 46) (rest := []) rfl
  · refine (jev_blk 3 (pc' := 45) (L' := ([some (.ref 43), some (.ref (49 + 6 * 2)), d2, d3], [])) (S' := [.int (s 2 0), .ref 43]) (h' := (jX f g n2 p pa s sa false rp t, z)) rfl).trans ?_
    exact jev_callb (nx := 46) (rest := []) rfl
  · refine (jev_blk 3 (pc' := 45) (L' := ([some (.ref 43), some (.ref (49 + 6 * 2)), d2, d3], [])) (S' := [.int (s 2 0), .ref 43]) (h' := (jX f g n2 p pa s sa true rp t, z)) rfl).trans ?_
    exact jev_callb (nx := 46) (rest := []) rfl
set_option maxRecDepth 20000 in
theorem E_h_flapping_33 {D : Nat} {j : Nat} {x2 : Int32} {x3 : Int32} {u0 : Int32} {f : Nat → Int32} {g : Nat → Nat → Int32} {n2 : Nat → Nat → Int64} {p : Nat → Nat → Int32} {pa : Nat → Nat → Nat → Int32} {s : Nat → Nat → Int32} {sa : Nat → Nat → Nat → Int32} {sw : Bool} {rp : Value} {t : List jE} {z : Nat × Nat × Nat × (Nat → Int32)} (hj : j < 3) : jev D 3 33 ([some (.ref 43), some (.ref (49 + 6 * j)), some (.int x2), some (.int x3)], []) [.int u0] (jX f g n2 p pa s sa sw rp t, z) = if u0 = 0 then (if jout x2 6 then none else (if (sa j 4 x2.toNatClampNeg) < x3 then (some (.inl (some (.int 1)), (jX f g n2 p pa s sa sw rp t, z))) else (K_h_flapping_42 D j (some (.int x2)) (some (.int x3)) f g n2 p pa s sa sw rp t z))) else (K_h_flapping_42 D j (some (.int x2)) (some (.int x3)) f g n2 p pa s sa sw rp t z) := by
  rcases jlt3 hj with rfl | rfl | rfl <;> cases sw
  · refine (jev_blk 1 (pc' := if u0 = 0 then 34 else 42) (L' := ([some (.ref 43), some (.ref (49 + 6 * 0)), some (.int x2), some (.int x3)], [])) (S' := []) (h' := (jX f g n2 p pa s sa false rp t, z)) rfl).trans (jev_ite.trans (jite_congr (fun _ => ?_) (fun _ => ?_)))
    · refine (jev_blk 3 (pc' := 37) (L' := ([some (.ref 43), some (.ref (49 + 6 * 0)), some (.int x2), some (.int x3)], [])) (S' := [.int x2, .ref (50 + 6 * 0 + 4)]) (h' := (jX f g n2 p pa s sa false rp t, z)) rfl).trans ?_
      refine (jev_grd (q := jout x2 6) (pc' := 38) (L' := ([some (.ref 43), some (.ref (49 + 6 * 0)), some (.int x2), some (.int x3)], [])) (S' := [.int (sa 0 4 x2.toNatClampNeg)]) (h' := (jX f g n2 p pa s sa false rp t, z)) rfl).trans (jite_congr (fun _ => rfl) (fun _ => ?_))
      refine (jev_blk 2 (pc' := if (sa 0 4 x2.toNatClampNeg) < x3 then 40 else 42) (L' := ([some (.ref 43), some (.ref (49 + 6 * 0)), some (.int x2), some (.int x3)], [])) (S' := []) (h' := (jX f g n2 p pa s sa false rp t, z)) rfl).trans (jev_ite.trans (jite_congr (fun _ => ?_) (fun _ => ?_)))
      · refine (jev_blk 1 (pc' := 41) (L' := ([some (.ref 43), some (.ref (49 + 6 * 0)), some (.int x2), some (.int x3)], [])) (S' := [.int 1]) (h' := (jX f g n2 p pa s sa false rp t, z)) rfl).trans ?_
        exact jev_fin rfl
      · rfl
    · rfl
  · refine (jev_blk 1 (pc' := if u0 = 0 then 34 else 42) (L' := ([some (.ref 43), some (.ref (49 + 6 * 0)), some (.int x2), some (.int x3)], [])) (S' := []) (h' := (jX f g n2 p pa s sa true rp t, z)) rfl).trans (jev_ite.trans (jite_congr (fun _ => ?_) (fun _ => ?_)))
    · refine (jev_blk 3 (pc' := 37) (L' := ([some (.ref 43), some (.ref (49 + 6 * 0)), some (.int x2), some (.int x3)], [])) (S' := [.int x2, .ref (50 + 6 * 0 + 4)]) (h' := (jX f g n2 p pa s sa true rp t, z)) rfl).trans ?_
      refine (jev_grd (q := jout x2 6) (pc' := 38) (L' := ([some (.ref 43), some (.ref (49 + 6 * 0)), some (.int x2), some (.int x3)], [])) (S' := [.int (sa 0 4 x2.toNatClampNeg)]) (h' := (jX f g n2 p pa s sa true rp t, z)) rfl).trans (jite_congr (fun _ => rfl) (fun _ => ?_))
      refine (jev_blk 2 (pc' := if (sa 0 4 x2.toNatClampNeg) < x3 then 40 else 42) (L' := ([some (.ref 43), some (.ref (49 + 6 * 0)), some (.int x2), some (.int x3)], [])) (S' := []) (h' := (jX f g n2 p pa s sa true rp t, z)) rfl).trans (jev_ite.trans (jite_congr (fun _ => ?_) (fun _ => ?_)))
      · refine (jev_blk 1 (pc' := 41) (L' := ([some (.ref 43), some (.ref (49 + 6 * 0)), some (.int x2), some (.int x3)], [])) (S' := [.int 1]) (h' := (jX f g n2 p pa s sa true rp t, z)) rfl).trans ?_
        exact jev_fin rfl
      · rfl
    · rfl
  · refine (jev_blk 1 (pc' := if u0 = 0 then 34 else 42) (L' := ([some (.ref 43), some (.ref (49 + 6 * 1)), some (.int x2), some (.int x3)], [])) (S' := []) (h' := (jX f g n2 p pa s sa false rp t, z)) rfl).trans (jev_ite.trans (jite_congr (fun _ => ?_) (fun _ => ?_)))
    · refine (jev_blk 3 (pc' := 37) (L' := ([some (.ref 43), some (.ref (49 + 6 * 1)), some (.int x2), some (.int x3)], [])) (S' := [.int x2, .ref (50 + 6 * 1 + 4)]) (h' := (jX f g n2 p pa s sa false rp t, z)) rfl).trans ?_
      refine (jev_grd (q := jout x2 6) (pc' := 38) (L' := ([some (.ref 43), some (.ref (49 + 6 * 1)), some (.int x2), some (.int x3)], [])) (S' := [.int (sa 1 4 x2.toNatClampNeg)]) (h' := (jX f g n2 p pa s sa false rp t, z)) rfl).trans (jite_congr (fun _ => rfl) (fun _ => ?_))
      refine (jev_blk 2 (pc' := if (sa 1 4 x2.toNatClampNeg) < x3 then 40 else 42) (L' := ([some (.ref 43), some (.ref (49 + 6 * 1)), some (.int x2), some (.int x3)], [])) (S' := []) (h' := (jX f g n2 p pa s sa false rp t, z)) rfl).trans (jev_ite.trans (jite_congr (fun _ => ?_) (fun _ => ?_)))
      · refine (jev_blk 1 (pc' := 41) (L' := ([some (.ref 43), some (.ref (49 + 6 * 1)), some (.int x2), some (.int x3)], [])) (S' := [.int 1]) (h' := (jX f g n2 p pa s sa false rp t, z)) rfl).trans ?_
        exact jev_fin rfl
      · rfl
    · rfl
  · refine (jev_blk 1 (pc' := if u0 = 0 then 34 else 42) (L' := ([some (.ref 43), some (.ref (49 + 6 * 1)), some (.int x2), some (.int x3)], [])) (S' := []) (h' := (jX f g n2 p pa s sa true rp t, z)) rfl).trans (jev_ite.trans (jite_congr (fun _ => ?_) (fun _ => ?_)))
    · refine (jev_blk 3 (pc' := 37) (L' := ([some (.ref 43), some (.ref (49 + 6 * 1)), some (.int x2), some (.int x3)], [])) (S' := [.int x2, .ref (50 + 6 * 1 + 4)]) (h' := (jX f g n2 p pa s sa true rp t, z)) rfl).trans ?_
      refine (jev_grd (q := jout x2 6) (pc' := 38) (L' := ([some (.ref 43), some (.ref (49 + 6 * 1)), some (.int x2), some (.int x3)], [])) (S' := [.int (sa 1 4 x2.toNatClampNeg)]) (h' := (jX f g n2 p pa s sa true rp t, z)) rfl).trans (jite_congr (fun _ => rfl) (fun _ => ?_))
      refine (jev_blk 2 (pc' := if (sa 1 4 x2.toNatClampNeg) < x3 then 40 else 42) (L' := ([some (.ref 43), some (.ref (49 + 6 * 1)), some (.int x2), some (.int x3)], [])) (S' := []) (h' := (jX f g n2 p pa s sa true rp t, z)) rfl).trans (jev_ite.trans (jite_congr (fun _ => ?_) (fun _ => ?_)))
      · refine (jev_blk 1 (pc' := 41) (L' := ([some (.ref 43), some (.ref (49 + 6 * 1)), some (.int x2), some (.int x3)], [])) (S' := [.int 1]) (h' := (jX f g n2 p pa s sa true rp t, z)) rfl).trans ?_
        exact jev_fin rfl
      · rfl
    · rfl
  · refine (jev_blk 1 (pc' := if u0 = 0 then 34 else 42) (L' := ([some (.ref 43), some (.ref (49 + 6 * 2)), some (.int x2), some (.int x3)], [])) (S' := []) (h' := (jX f g n2 p pa s sa false rp t, z)) rfl).trans (jev_ite.trans (jite_congr (fun _ => ?_) (fun _ => ?_)))
    · refine (jev_blk 3 (pc' := 37) (L' := ([some (.ref 43), some (.ref (49 + 6 * 2)), some (.int x2), some (.int x3)], [])) (S' := [.int x2, .ref (50 + 6 * 2 + 4)]) (h' := (jX f g n2 p pa s sa false rp t, z)) rfl).trans ?_
      refine (jev_grd (q := jout x2 6) (pc' := 38) (L' := ([some (.ref 43), some (.ref (49 + 6 * 2)), some (.int x2), some (.int x3)], [])) (S' := [.int (sa 2 4 x2.toNatClampNeg)]) (h' := (jX f g n2 p pa s sa false rp t, z)) rfl).trans (jite_congr (fun _ => rfl) (fun _ => ?_))
      refine (jev_blk 2 (pc' := if (sa 2 4 x2.toNatClampNeg) < x3 then 40 else 42) (L' := ([some (.ref 43), some (.ref (49 + 6 * 2)), some (.int x2), some (.int x3)], [])) (S' := []) (h' := (jX f g n2 p pa s sa false rp t, z)) rfl).trans (jev_ite.trans (jite_congr (fun _ => ?_) (fun _ => ?_)))
      · refine (jev_blk 1 (pc' := 41) (L' := ([some (.ref 43), some (.ref (49 + 6 * 2)), some (.int x2), some (.int x3)], [])) (S' := [.int 1]) (h' := (jX f g n2 p pa s sa false rp t, z)) rfl).trans ?_
        exact jev_fin rfl
      · rfl
    · rfl
  · refine (jev_blk 1 (pc' := if u0 = 0 then 34 else 42) (L' := ([some (.ref 43), some (.ref (49 + 6 * 2)), some (.int x2), some (.int x3)], [])) (S' := []) (h' := (jX f g n2 p pa s sa true rp t, z)) rfl).trans (jev_ite.trans (jite_congr (fun _ => ?_) (fun _ => ?_)))
    · refine (jev_blk 3 (pc' := 37) (L' := ([some (.ref 43), some (.ref (49 + 6 * 2)), some (.int x2), some (.int x3)], [])) (S' := [.int x2, .ref (50 + 6 * 2 + 4)]) (h' := (jX f g n2 p pa s sa true rp t, z)) rfl).trans ?_
      refine (jev_grd (q := jout x2 6) (pc' := 38) (L' := ([some (.ref 43), some (.ref (49 + 6 * 2)), some (.int x2), some (.int x3)], [])) (S' := [.int (sa 2 4 x2.toNatClampNeg)]) (h' := (jX f g n2 p pa s sa true rp t, z)) rfl).trans (jite_congr (fun _ => rfl) (fun _ => ?_))
      refine (jev_blk 2 (pc' := if (sa 2 4 x2.toNatClampNeg) < x3 then 40 else 42) (L' := ([some (.ref 43), some (.ref (49 + 6 * 2)), some (.int x2), some (.int x3)], [])) (S' := []) (h' := (jX f g n2 p pa s sa true rp t, z)) rfl).trans (jev_ite.trans (jite_congr (fun _ => ?_) (fun _ => ?_)))
      · refine (jev_blk 1 (pc' := 41) (L' := ([some (.ref 43), some (.ref (49 + 6 * 2)), some (.int x2), some (.int x3)], [])) (S' := [.int 1]) (h' := (jX f g n2 p pa s sa true rp t, z)) rfl).trans ?_
        exact jev_fin rfl
      · rfl
    · rfl
set_option maxRecDepth 20000 in
theorem E_h_flapping_46 {D : Nat}  {d1 : Option Value} {d2 : Option Value} {d3 : Option Value} {u0 : Int32} {f : Nat → Int32} {g : Nat → Nat → Int32} {n2 : Nat → Nat → Int64} {p : Nat → Nat → Int32} {pa : Nat → Nat → Nat → Int32} {s : Nat → Nat → Int32} {sa : Nat → Nat → Nat → Int32} {sw : Bool} {rp : Value} {t : List jE} {z : Nat × Nat × Nat × (Nat → Int32)}  : jev D 3 46 ([some (.ref 43), d1, d2, d3], []) [.int u0] (jX f g n2 p pa s sa sw rp t, z) = if u0 < (p (jq sw) 8) then (some (.inl (some (.int 0)), (jX f g n2 p pa s sa sw rp t, z))) else (some (.inl (some (.int 2)), (jX f g n2 p pa s sa sw rp t, z))) := by
  cases sw
  · refine (jev_blk 4 (pc' := if u0 < (p (jq false) 8) then 52 else 50) (L' := ([some (.ref 43), d1, d2, d3], [])) (S' := []) (h' := (jX f g n2 p pa s sa false rp t, z)) rfl).trans (jev_ite.trans (jite_congr (fun _ => ?_) (fun _ => ?_)))
    · refine (jev_blk 1 (pc' := 53) (L' := ([some (.ref 43), d1, d2, d3], [])) (S' := [.int 0]) (h' := (jX f g n2 p pa s sa false rp t, z)) rfl).trans ?_
      exact jev_fin rfl
    · refine (jev_blk 2 (pc' := 53) (L' := ([some (.ref 43), d1, d2, d3], [])) (S' := [.int 2]) (h' := (jX f g n2 p pa s sa false rp t, z)) rfl).trans ?_
      exact jev_fin rfl
  · refine (jev_blk 4 (pc' := if u0 < (p (jq true) 8) then 52 else 50) (L' := ([some (.ref 43), d1, d2, d3], [])) (S' := []) (h' := (jX f g n2 p pa s sa true rp t, z)) rfl).trans (jev_ite.trans (jite_congr (fun _ => ?_) (fun _ => ?_)))
    · refine (jev_blk 1 (pc' := 53) (L' := ([some (.ref 43), d1, d2, d3], [])) (S' := [.int 0]) (h' := (jX f g n2 p pa s sa true rp t, z)) rfl).trans ?_
      exact jev_fin rfl
    · refine (jev_blk 2 (pc' := 53) (L' := ([some (.ref 43), d1, d2, d3], [])) (S' := [.int 2]) (h' := (jX f g n2 p pa s sa true rp t, z)) rfl).trans ?_
      exact jev_fin rfl
set_option maxRecDepth 20000 in
theorem E_h_sightOf {D : Nat}  {a0 : Int32} {f : Nat → Int32} {g : Nat → Nat → Int32} {n2 : Nat → Nat → Int64} {p : Nat → Nat → Int32} {pa : Nat → Nat → Nat → Int32} {s : Nat → Nat → Int32} {sa : Nat → Nat → Nat → Int32} {sw : Bool} {rp : Value} {t : List jE} {z : Nat × Nat × Nat × (Nat → Int32)}  : K_h_sightOf D a0 f g n2 p pa s sa sw rp t z = if jout a0 6 then none else (some (.inl (some (.int ((pa (jq sw) 3 a0.toNatClampNeg) + (f 18)))), (jX f g n2 p pa s sa sw rp t, z))) := by
  cases sw
  · refine (jev_blk 4 (pc' := 4) (L' := ([some (.ref 43), some (.int a0)], [])) (S' := [.int a0, .ref ((jpl false) + 4)]) (h' := (jX f g n2 p pa s sa false rp t, z)) rfl).trans ?_
    refine (jev_grd (q := jout a0 6) (pc' := 5) (L' := ([some (.ref 43), some (.int a0)], [])) (S' := [.int (pa (jq false) 3 a0.toNatClampNeg)]) (h' := (jX f g n2 p pa s sa false rp t, z)) rfl).trans (jite_congr (fun _ => rfl) (fun _ => ?_))
    refine (jev_blk 4 (pc' := 9) (L' := ([some (.ref 43), some (.int a0)], [])) (S' := [.int ((pa (jq false) 3 a0.toNatClampNeg) + (f 18))]) (h' := (jX f g n2 p pa s sa false rp t, z)) rfl).trans ?_
    exact jev_fin rfl
  · refine (jev_blk 4 (pc' := 4) (L' := ([some (.ref 43), some (.int a0)], [])) (S' := [.int a0, .ref ((jpl true) + 4)]) (h' := (jX f g n2 p pa s sa true rp t, z)) rfl).trans ?_
    refine (jev_grd (q := jout a0 6) (pc' := 5) (L' := ([some (.ref 43), some (.int a0)], [])) (S' := [.int (pa (jq true) 3 a0.toNatClampNeg)]) (h' := (jX f g n2 p pa s sa true rp t, z)) rfl).trans (jite_congr (fun _ => rfl) (fun _ => ?_))
    refine (jev_blk 4 (pc' := 9) (L' := ([some (.ref 43), some (.int a0)], [])) (S' := [.int ((pa (jq true) 3 a0.toNatClampNeg) + (f 18))]) (h' := (jX f g n2 p pa s sa true rp t, z)) rfl).trans ?_
    exact jev_fin rfl
set_option maxRecDepth 20000 in
theorem E_h_stand {D : Nat} {j : Nat} {a1 : Int32} {a2 : Int32} {f : Nat → Int32} {g : Nat → Nat → Int32} {n2 : Nat → Nat → Int64} {p : Nat → Nat → Int32} {pa : Nat → Nat → Nat → Int32} {s : Nat → Nat → Int32} {sa : Nat → Nat → Nat → Int32} {sw : Bool} {rp : Value} {t : List jE} {z : Nat × Nat × Nat × (Nat → Int32)} (hj : j < 3) : K_h_stand D j a1 a2 f g n2 p pa s sa sw rp t z = jbO (K_h_windOn D (s j 0) f g (jup n2 0 ((jup (jup (n2 0) 0 a1.toInt64) 1 0))) p pa s sa sw rp t z) (jk D 5 18 ([some (.ref 43), some (.ref (49 + 6 * j)), some (.int a1), some (.int a2)], []) [.int 2, .ref 46]) := by
  rcases jlt3 hj with rfl | rfl | rfl <;> cases sw
  · refine (jev_blk 17 (pc' := 17) (L' := ([some (.ref 43), some (.ref (49 + 6 * 0)), some (.int a1), some (.int a2)], [])) (S' := [.int (s 0 0), .ref 43, .int 2, .ref 46]) (h' := (jX f g (jup n2 0 ((jup (jup (n2 0) 0 a1.toInt64) 1 0))) p pa s sa false rp t, z)) rfl).trans ?_
    exact jev_callb (nx := 18) (rest := [.int 2, .ref 46]) rfl
  · refine (jev_blk 17 (pc' := 17) (L' := ([some (.ref 43), some (.ref (49 + 6 * 0)), some (.int a1), some (.int a2)], [])) (S' := [.int (s 0 0), .ref 43, .int 2, .ref 46]) (h' := (jX f g (jup n2 0 ((jup (jup (n2 0) 0 a1.toInt64) 1 0))) p pa s sa true rp t, z)) rfl).trans ?_
    exact jev_callb (nx := 18) (rest := [.int 2, .ref 46]) rfl
  · refine (jev_blk 17 (pc' := 17) (L' := ([some (.ref 43), some (.ref (49 + 6 * 1)), some (.int a1), some (.int a2)], [])) (S' := [.int (s 1 0), .ref 43, .int 2, .ref 46]) (h' := (jX f g (jup n2 0 ((jup (jup (n2 0) 0 a1.toInt64) 1 0))) p pa s sa false rp t, z)) rfl).trans ?_
    exact jev_callb (nx := 18) (rest := [.int 2, .ref 46]) rfl
  · refine (jev_blk 17 (pc' := 17) (L' := ([some (.ref 43), some (.ref (49 + 6 * 1)), some (.int a1), some (.int a2)], [])) (S' := [.int (s 1 0), .ref 43, .int 2, .ref 46]) (h' := (jX f g (jup n2 0 ((jup (jup (n2 0) 0 a1.toInt64) 1 0))) p pa s sa true rp t, z)) rfl).trans ?_
    exact jev_callb (nx := 18) (rest := [.int 2, .ref 46]) rfl
  · refine (jev_blk 17 (pc' := 17) (L' := ([some (.ref 43), some (.ref (49 + 6 * 2)), some (.int a1), some (.int a2)], [])) (S' := [.int (s 2 0), .ref 43, .int 2, .ref 46]) (h' := (jX f g (jup n2 0 ((jup (jup (n2 0) 0 a1.toInt64) 1 0))) p pa s sa false rp t, z)) rfl).trans ?_
    exact jev_callb (nx := 18) (rest := [.int 2, .ref 46]) rfl
  · refine (jev_blk 17 (pc' := 17) (L' := ([some (.ref 43), some (.ref (49 + 6 * 2)), some (.int a1), some (.int a2)], [])) (S' := [.int (s 2 0), .ref 43, .int 2, .ref 46]) (h' := (jX f g (jup n2 0 ((jup (jup (n2 0) 0 a1.toInt64) 1 0))) p pa s sa true rp t, z)) rfl).trans ?_
    exact jev_callb (nx := 18) (rest := [.int 2, .ref 46]) rfl
set_option maxRecDepth 20000 in
theorem E_h_stand_18 {D : Nat} {j : Nat} {d2 : Option Value} {x3 : Int32} {u0 : Int32} {u1 : Int32} {f : Nat → Int32} {g : Nat → Nat → Int32} {n2 : Nat → Nat → Int64} {p : Nat → Nat → Int32} {pa : Nat → Nat → Nat → Int32} {s : Nat → Nat → Int32} {sa : Nat → Nat → Nat → Int32} {sw : Bool} {rp : Value} {t : List jE} {z : Nat × Nat × Nat × (Nat → Int32)} (hj : j < 3) : jev D 5 18 ([some (.ref 43), some (.ref (49 + 6 * j)), d2, some (.int x3)], []) [.int u0, .int u1, .ref 46] (jX f g n2 p pa s sa sw rp t, z) = if jout u1 7 then none else (jev D 5 26 ([some (.ref 43), some (.ref (49 + 6 * j)), d2, some (.int x3)], []) [.long ((s j 1).toInt64), .int 3, .ref 46] (jX f g (jup n2 0 ((jup (n2 0) (u1.toNatClampNeg) u0.toInt64))) p pa s sa sw rp t, z)) := by
  rcases jlt3 hj with rfl | rfl | rfl <;> cases sw
  · refine (jev_blk 1 (pc' := 19) (L' := ([some (.ref 43), some (.ref (49 + 6 * 0)), d2, some (.int x3)], [])) (S' := [.long u0.toInt64, .int u1, .ref 46]) (h' := (jX f g n2 p pa s sa false rp t, z)) rfl).trans ?_
    refine (jev_grd (q := jout u1 7) (pc' := 20) (L' := ([some (.ref 43), some (.ref (49 + 6 * 0)), d2, some (.int x3)], [])) (S' := []) (h' := (jX f g (jup n2 0 ((jup (n2 0) (u1.toNatClampNeg) u0.toInt64))) p pa s sa false rp t, z)) rfl).trans (jite_congr (fun _ => rfl) (fun _ => ?_))
    exact jev_blk 6 rfl
  · refine (jev_blk 1 (pc' := 19) (L' := ([some (.ref 43), some (.ref (49 + 6 * 0)), d2, some (.int x3)], [])) (S' := [.long u0.toInt64, .int u1, .ref 46]) (h' := (jX f g n2 p pa s sa true rp t, z)) rfl).trans ?_
    refine (jev_grd (q := jout u1 7) (pc' := 20) (L' := ([some (.ref 43), some (.ref (49 + 6 * 0)), d2, some (.int x3)], [])) (S' := []) (h' := (jX f g (jup n2 0 ((jup (n2 0) (u1.toNatClampNeg) u0.toInt64))) p pa s sa true rp t, z)) rfl).trans (jite_congr (fun _ => rfl) (fun _ => ?_))
    exact jev_blk 6 rfl
  · refine (jev_blk 1 (pc' := 19) (L' := ([some (.ref 43), some (.ref (49 + 6 * 1)), d2, some (.int x3)], [])) (S' := [.long u0.toInt64, .int u1, .ref 46]) (h' := (jX f g n2 p pa s sa false rp t, z)) rfl).trans ?_
    refine (jev_grd (q := jout u1 7) (pc' := 20) (L' := ([some (.ref 43), some (.ref (49 + 6 * 1)), d2, some (.int x3)], [])) (S' := []) (h' := (jX f g (jup n2 0 ((jup (n2 0) (u1.toNatClampNeg) u0.toInt64))) p pa s sa false rp t, z)) rfl).trans (jite_congr (fun _ => rfl) (fun _ => ?_))
    exact jev_blk 6 rfl
  · refine (jev_blk 1 (pc' := 19) (L' := ([some (.ref 43), some (.ref (49 + 6 * 1)), d2, some (.int x3)], [])) (S' := [.long u0.toInt64, .int u1, .ref 46]) (h' := (jX f g n2 p pa s sa true rp t, z)) rfl).trans ?_
    refine (jev_grd (q := jout u1 7) (pc' := 20) (L' := ([some (.ref 43), some (.ref (49 + 6 * 1)), d2, some (.int x3)], [])) (S' := []) (h' := (jX f g (jup n2 0 ((jup (n2 0) (u1.toNatClampNeg) u0.toInt64))) p pa s sa true rp t, z)) rfl).trans (jite_congr (fun _ => rfl) (fun _ => ?_))
    exact jev_blk 6 rfl
  · refine (jev_blk 1 (pc' := 19) (L' := ([some (.ref 43), some (.ref (49 + 6 * 2)), d2, some (.int x3)], [])) (S' := [.long u0.toInt64, .int u1, .ref 46]) (h' := (jX f g n2 p pa s sa false rp t, z)) rfl).trans ?_
    refine (jev_grd (q := jout u1 7) (pc' := 20) (L' := ([some (.ref 43), some (.ref (49 + 6 * 2)), d2, some (.int x3)], [])) (S' := []) (h' := (jX f g (jup n2 0 ((jup (n2 0) (u1.toNatClampNeg) u0.toInt64))) p pa s sa false rp t, z)) rfl).trans (jite_congr (fun _ => rfl) (fun _ => ?_))
    exact jev_blk 6 rfl
  · refine (jev_blk 1 (pc' := 19) (L' := ([some (.ref 43), some (.ref (49 + 6 * 2)), d2, some (.int x3)], [])) (S' := [.long u0.toInt64, .int u1, .ref 46]) (h' := (jX f g n2 p pa s sa true rp t, z)) rfl).trans ?_
    refine (jev_grd (q := jout u1 7) (pc' := 20) (L' := ([some (.ref 43), some (.ref (49 + 6 * 2)), d2, some (.int x3)], [])) (S' := []) (h' := (jX f g (jup n2 0 ((jup (n2 0) (u1.toNatClampNeg) u0.toInt64))) p pa s sa true rp t, z)) rfl).trans (jite_congr (fun _ => rfl) (fun _ => ?_))
    exact jev_blk 6 rfl
set_option maxRecDepth 20000 in
theorem E_h_stand_26 {D : Nat} {j : Nat} {d2 : Option Value} {x3 : Int32} {u0 : Int64} {u1 : Int32} {f : Nat → Int32} {g : Nat → Nat → Int32} {n2 : Nat → Nat → Int64} {p : Nat → Nat → Int32} {pa : Nat → Nat → Nat → Int32} {s : Nat → Nat → Int32} {sa : Nat → Nat → Nat → Int32} {sw : Bool} {rp : Value} {t : List jE} {z : Nat × Nat × Nat × (Nat → Int32)} (hj : j < 3) : jev D 5 26 ([some (.ref 43), some (.ref (49 + 6 * j)), d2, some (.int x3)], []) [.long u0, .int u1, .ref 46] (jX f g n2 p pa s sa sw rp t, z) = if jout u1 7 then none else (jev D 5 32 ([some (.ref 43), some (.ref (49 + 6 * j)), d2, some (.int x3)], []) [.long x3.toInt64, .int 4, .ref 46] (jX f g (jup n2 0 ((jup (n2 0) (u1.toNatClampNeg) u0))) p pa s sa sw rp t, z)) := by
  rcases jlt3 hj with rfl | rfl | rfl <;> cases sw
  · refine (jev_grd (q := jout u1 7) (pc' := 27) (L' := ([some (.ref 43), some (.ref (49 + 6 * 0)), d2, some (.int x3)], [])) (S' := []) (h' := (jX f g (jup n2 0 ((jup (n2 0) (u1.toNatClampNeg) u0))) p pa s sa false rp t, z)) rfl).trans (jite_congr (fun _ => rfl) (fun _ => ?_))
    exact jev_blk 5 rfl
  · refine (jev_grd (q := jout u1 7) (pc' := 27) (L' := ([some (.ref 43), some (.ref (49 + 6 * 0)), d2, some (.int x3)], [])) (S' := []) (h' := (jX f g (jup n2 0 ((jup (n2 0) (u1.toNatClampNeg) u0))) p pa s sa true rp t, z)) rfl).trans (jite_congr (fun _ => rfl) (fun _ => ?_))
    exact jev_blk 5 rfl
  · refine (jev_grd (q := jout u1 7) (pc' := 27) (L' := ([some (.ref 43), some (.ref (49 + 6 * 1)), d2, some (.int x3)], [])) (S' := []) (h' := (jX f g (jup n2 0 ((jup (n2 0) (u1.toNatClampNeg) u0))) p pa s sa false rp t, z)) rfl).trans (jite_congr (fun _ => rfl) (fun _ => ?_))
    exact jev_blk 5 rfl
  · refine (jev_grd (q := jout u1 7) (pc' := 27) (L' := ([some (.ref 43), some (.ref (49 + 6 * 1)), d2, some (.int x3)], [])) (S' := []) (h' := (jX f g (jup n2 0 ((jup (n2 0) (u1.toNatClampNeg) u0))) p pa s sa true rp t, z)) rfl).trans (jite_congr (fun _ => rfl) (fun _ => ?_))
    exact jev_blk 5 rfl
  · refine (jev_grd (q := jout u1 7) (pc' := 27) (L' := ([some (.ref 43), some (.ref (49 + 6 * 2)), d2, some (.int x3)], [])) (S' := []) (h' := (jX f g (jup n2 0 ((jup (n2 0) (u1.toNatClampNeg) u0))) p pa s sa false rp t, z)) rfl).trans (jite_congr (fun _ => rfl) (fun _ => ?_))
    exact jev_blk 5 rfl
  · refine (jev_grd (q := jout u1 7) (pc' := 27) (L' := ([some (.ref 43), some (.ref (49 + 6 * 2)), d2, some (.int x3)], [])) (S' := []) (h' := (jX f g (jup n2 0 ((jup (n2 0) (u1.toNatClampNeg) u0))) p pa s sa true rp t, z)) rfl).trans (jite_congr (fun _ => rfl) (fun _ => ?_))
    exact jev_blk 5 rfl
set_option maxRecDepth 20000 in
theorem E_h_stand_32 {D : Nat} {j : Nat} {d2 : Option Value} {d3 : Option Value} {u0 : Int64} {u1 : Int32} {f : Nat → Int32} {g : Nat → Nat → Int32} {n2 : Nat → Nat → Int64} {p : Nat → Nat → Int32} {pa : Nat → Nat → Nat → Int32} {s : Nat → Nat → Int32} {sa : Nat → Nat → Nat → Int32} {sw : Bool} {rp : Value} {t : List jE} {z : Nat × Nat × Nat × (Nat → Int32)} (hj : j < 3) : jev D 5 32 ([some (.ref 43), some (.ref (49 + 6 * j)), d2, d3], []) [.long u0, .int u1, .ref 46] (jX f g n2 p pa s sa sw rp t, z) = if jout u1 7 then none else (jev D 5 37 ([some (.ref 43), some (.ref (49 + 6 * j)), d2, d3], []) [.long 0, .int 5, .ref 46] (jX f g (jup n2 0 ((jup (n2 0) (u1.toNatClampNeg) u0))) p pa s sa sw rp t, z)) := by
  rcases jlt3 hj with rfl | rfl | rfl <;> cases sw
  · refine (jev_grd (q := jout u1 7) (pc' := 33) (L' := ([some (.ref 43), some (.ref (49 + 6 * 0)), d2, d3], [])) (S' := []) (h' := (jX f g (jup n2 0 ((jup (n2 0) (u1.toNatClampNeg) u0))) p pa s sa false rp t, z)) rfl).trans (jite_congr (fun _ => rfl) (fun _ => ?_))
    exact jev_blk 4 rfl
  · refine (jev_grd (q := jout u1 7) (pc' := 33) (L' := ([some (.ref 43), some (.ref (49 + 6 * 0)), d2, d3], [])) (S' := []) (h' := (jX f g (jup n2 0 ((jup (n2 0) (u1.toNatClampNeg) u0))) p pa s sa true rp t, z)) rfl).trans (jite_congr (fun _ => rfl) (fun _ => ?_))
    exact jev_blk 4 rfl
  · refine (jev_grd (q := jout u1 7) (pc' := 33) (L' := ([some (.ref 43), some (.ref (49 + 6 * 1)), d2, d3], [])) (S' := []) (h' := (jX f g (jup n2 0 ((jup (n2 0) (u1.toNatClampNeg) u0))) p pa s sa false rp t, z)) rfl).trans (jite_congr (fun _ => rfl) (fun _ => ?_))
    exact jev_blk 4 rfl
  · refine (jev_grd (q := jout u1 7) (pc' := 33) (L' := ([some (.ref 43), some (.ref (49 + 6 * 1)), d2, d3], [])) (S' := []) (h' := (jX f g (jup n2 0 ((jup (n2 0) (u1.toNatClampNeg) u0))) p pa s sa true rp t, z)) rfl).trans (jite_congr (fun _ => rfl) (fun _ => ?_))
    exact jev_blk 4 rfl
  · refine (jev_grd (q := jout u1 7) (pc' := 33) (L' := ([some (.ref 43), some (.ref (49 + 6 * 2)), d2, d3], [])) (S' := []) (h' := (jX f g (jup n2 0 ((jup (n2 0) (u1.toNatClampNeg) u0))) p pa s sa false rp t, z)) rfl).trans (jite_congr (fun _ => rfl) (fun _ => ?_))
    exact jev_blk 4 rfl
  · refine (jev_grd (q := jout u1 7) (pc' := 33) (L' := ([some (.ref 43), some (.ref (49 + 6 * 2)), d2, d3], [])) (S' := []) (h' := (jX f g (jup n2 0 ((jup (n2 0) (u1.toNatClampNeg) u0))) p pa s sa true rp t, z)) rfl).trans (jite_congr (fun _ => rfl) (fun _ => ?_))
    exact jev_blk 4 rfl
set_option maxRecDepth 20000 in
theorem E_h_stand_37 {D : Nat} {j : Nat} {d2 : Option Value} {d3 : Option Value} {u0 : Int64} {u1 : Int32} {f : Nat → Int32} {g : Nat → Nat → Int32} {n2 : Nat → Nat → Int64} {p : Nat → Nat → Int32} {pa : Nat → Nat → Nat → Int32} {s : Nat → Nat → Int32} {sa : Nat → Nat → Nat → Int32} {sw : Bool} {rp : Value} {t : List jE} {z : Nat × Nat × Nat × (Nat → Int32)} (hj : j < 3) : jev D 5 37 ([some (.ref 43), some (.ref (49 + 6 * j)), d2, d3], []) [.long u0, .int u1, .ref 46] (jX f g n2 p pa s sa sw rp t, z) = if jout u1 7 then none else (jev D 5 44 ([some (.ref 43), some (.ref (49 + 6 * j)), d2, d3], []) [.long ((s j 0).toInt64), .int 6, .ref 46] (jX f g (jup n2 0 ((jup (n2 0) (u1.toNatClampNeg) u0))) p pa s sa sw rp t, z)) := by
  rcases jlt3 hj with rfl | rfl | rfl <;> cases sw
  · refine (jev_grd (q := jout u1 7) (pc' := 38) (L' := ([some (.ref 43), some (.ref (49 + 6 * 0)), d2, d3], [])) (S' := []) (h' := (jX f g (jup n2 0 ((jup (n2 0) (u1.toNatClampNeg) u0))) p pa s sa false rp t, z)) rfl).trans (jite_congr (fun _ => rfl) (fun _ => ?_))
    exact jev_blk 6 rfl
  · refine (jev_grd (q := jout u1 7) (pc' := 38) (L' := ([some (.ref 43), some (.ref (49 + 6 * 0)), d2, d3], [])) (S' := []) (h' := (jX f g (jup n2 0 ((jup (n2 0) (u1.toNatClampNeg) u0))) p pa s sa true rp t, z)) rfl).trans (jite_congr (fun _ => rfl) (fun _ => ?_))
    exact jev_blk 6 rfl
  · refine (jev_grd (q := jout u1 7) (pc' := 38) (L' := ([some (.ref 43), some (.ref (49 + 6 * 1)), d2, d3], [])) (S' := []) (h' := (jX f g (jup n2 0 ((jup (n2 0) (u1.toNatClampNeg) u0))) p pa s sa false rp t, z)) rfl).trans (jite_congr (fun _ => rfl) (fun _ => ?_))
    exact jev_blk 6 rfl
  · refine (jev_grd (q := jout u1 7) (pc' := 38) (L' := ([some (.ref 43), some (.ref (49 + 6 * 1)), d2, d3], [])) (S' := []) (h' := (jX f g (jup n2 0 ((jup (n2 0) (u1.toNatClampNeg) u0))) p pa s sa true rp t, z)) rfl).trans (jite_congr (fun _ => rfl) (fun _ => ?_))
    exact jev_blk 6 rfl
  · refine (jev_grd (q := jout u1 7) (pc' := 38) (L' := ([some (.ref 43), some (.ref (49 + 6 * 2)), d2, d3], [])) (S' := []) (h' := (jX f g (jup n2 0 ((jup (n2 0) (u1.toNatClampNeg) u0))) p pa s sa false rp t, z)) rfl).trans (jite_congr (fun _ => rfl) (fun _ => ?_))
    exact jev_blk 6 rfl
  · refine (jev_grd (q := jout u1 7) (pc' := 38) (L' := ([some (.ref 43), some (.ref (49 + 6 * 2)), d2, d3], [])) (S' := []) (h' := (jX f g (jup n2 0 ((jup (n2 0) (u1.toNatClampNeg) u0))) p pa s sa true rp t, z)) rfl).trans (jite_congr (fun _ => rfl) (fun _ => ?_))
    exact jev_blk 6 rfl
set_option maxRecDepth 20000 in
theorem E_h_stand_44 {D : Nat}  {d1 : Option Value} {d2 : Option Value} {d3 : Option Value} {u0 : Int64} {u1 : Int32} {f : Nat → Int32} {g : Nat → Nat → Int32} {n2 : Nat → Nat → Int64} {p : Nat → Nat → Int32} {pa : Nat → Nat → Nat → Int32} {s : Nat → Nat → Int32} {sa : Nat → Nat → Nat → Int32} {sw : Bool} {rp : Value} {t : List jE} {z : Nat × Nat × Nat × (Nat → Int32)}  : jev D 5 44 ([some (.ref 43), d1, d2, d3], []) [.long u0, .int u1, .ref 46] (jX f g n2 p pa s sa sw rp t, z) = if jout u1 7 then none else (some (.inl (none), (jX f g (jup n2 0 ((jup (n2 0) (u1.toNatClampNeg) u0))) p pa s sa sw rp t, z))) := by
  cases sw
  · refine (jev_grd (q := jout u1 7) (pc' := 45) (L' := ([some (.ref 43), d1, d2, d3], [])) (S' := []) (h' := (jX f g (jup n2 0 ((jup (n2 0) (u1.toNatClampNeg) u0))) p pa s sa false rp t, z)) rfl).trans (jite_congr (fun _ => rfl) (fun _ => ?_))
    exact jev_fin rfl
  · refine (jev_grd (q := jout u1 7) (pc' := 45) (L' := ([some (.ref 43), d1, d2, d3], [])) (S' := []) (h' := (jX f g (jup n2 0 ((jup (n2 0) (u1.toNatClampNeg) u0))) p pa s sa true rp t, z)) rfl).trans (jite_congr (fun _ => rfl) (fun _ => ?_))
    exact jev_fin rfl
set_option maxRecDepth 20000 in
theorem E_h_looks {D : Nat}  {a0 : Int32} {a1 : Int32} {a2 : Int32} {f : Nat → Int32} {g : Nat → Nat → Int32} {n2 : Nat → Nat → Int64} {p : Nat → Nat → Int32} {pa : Nat → Nat → Nat → Int32} {s : Nat → Nat → Int32} {sa : Nat → Nat → Nat → Int32} {sw : Bool} {rp : Value} {t : List jE} {z : Nat × Nat × Nat × (Nat → Int32)}  : K_h_looks D a0 a1 a2 f g n2 p pa s sa sw rp t z = jbO (K_p_distance D sw a0 a1 f g n2 p pa s sa sw rp t z) (jk D 6 5 ([some (.ref 43), some (.int a0), some (.int a1), some (.int a2), none, none, none], [none, none, none, none, none, none, none]) []) := by
  cases sw
  · refine (jev_blk 4 (pc' := 4) (L' := ([some (.ref 43), some (.int a0), some (.int a1), some (.int a2), none, none, none], [none, none, none, none, none, none, none])) (S' := [.int a1, .int a0, .ref (jpl false)]) (h' := (jX f g n2 p pa s sa false rp t, z)) rfl).trans ?_
    exact jev_callb (nx := 5) (rest := []) rfl
  · refine (jev_blk 4 (pc' := 4) (L' := ([some (.ref 43), some (.int a0), some (.int a1), some (.int a2), none, none, none], [none, none, none, none, none, none, none])) (S' := [.int a1, .int a0, .ref (jpl true)]) (h' := (jX f g n2 p pa s sa true rp t, z)) rfl).trans ?_
    exact jev_callb (nx := 5) (rest := []) rfl
set_option maxRecDepth 20000 in
theorem E_h_looks_5 {D : Nat}  {d1 : Option Value} {d2 : Option Value} {x3 : Int32} {d4 : Option Value} {d5 : Option Value} {e5 : Option Int64} {d6 : Option Value} {u0 : Int32} {f : Nat → Int32} {g : Nat → Nat → Int32} {n2 : Nat → Nat → Int64} {p : Nat → Nat → Int32} {pa : Nat → Nat → Nat → Int32} {s : Nat → Nat → Int32} {sa : Nat → Nat → Nat → Int32} {sw : Bool} {rp : Value} {t : List jE} {z : Nat × Nat × Nat × (Nat → Int32)}  : jev D 6 5 ([some (.ref 43), d1, d2, some (.int x3), d4, d5, d6], [none, none, none, none, none, e5, none]) [.int u0] (jX f g n2 p pa s sa sw rp t, z) = jbO (K_w_worth D sw 0 f g (jup n2 0 ((jup (jup (n2 0) 1 u0.toInt64) 5 x3.toInt64))) p pa s sa sw rp t z) (jk D 6 28 ([some (.ref 43), d1, d2, some (.int x3), some (.int u0), d5, d6], [none, none, none, none, none, e5, none]) []) := by
  cases sw
  · refine (jev_blk 22 (pc' := 27) (L' := ([some (.ref 43), d1, d2, some (.int x3), some (.int u0), d5, d6], [none, none, none, none, none, e5, none])) (S' := [.ref 47, .ref 46, .ref ((jpl false) + 10)]) (h' := (jX f g (jup n2 0 ((jup (jup (n2 0) 1 u0.toInt64) 5 x3.toInt64))) p pa s sa false rp t, z)) rfl).trans ?_
    exact jev_callb (nx := 28) (rest := []) rfl
  · refine (jev_blk 22 (pc' := 27) (L' := ([some (.ref 43), d1, d2, some (.int x3), some (.int u0), d5, d6], [none, none, none, none, none, e5, none])) (S' := [.ref 47, .ref 46, .ref ((jpl true) + 10)]) (h' := (jX f g (jup n2 0 ((jup (jup (n2 0) 1 u0.toInt64) 5 x3.toInt64))) p pa s sa true rp t, z)) rfl).trans ?_
    exact jev_callb (nx := 28) (rest := []) rfl
set_option maxRecDepth 20000 in
theorem E_h_looks_28 {D : Nat}  {d1 : Option Value} {d2 : Option Value} {d3 : Option Value} {x4 : Int32} {d5 : Option Value} {e5 : Option Int64} {d6 : Option Value} {u0 : Int64} {f : Nat → Int32} {g : Nat → Nat → Int32} {n2 : Nat → Nat → Int64} {p : Nat → Nat → Int32} {pa : Nat → Nat → Nat → Int32} {s : Nat → Nat → Int32} {sa : Nat → Nat → Nat → Int32} {sw : Bool} {rp : Value} {t : List jE} {z : Nat × Nat × Nat × (Nat → Int32)}  : jev D 6 28 ([some (.ref 43), d1, d2, d3, some (.int x4), d5, d6], [none, none, none, none, none, e5, none]) [.long u0] (jX f g n2 p pa s sa sw rp t, z) = if (lg_cmp u0 (-9223372036854775808)) = 0 then (if 0 < (lg_cmp x4.toInt64 (n2 0 0)) then (some (.inl (some (.int 0)), (jX f g n2 p pa s sa sw rp t, z))) else (some (.inl (some (.int 1)), (jX f g n2 p pa s sa sw rp t, z)))) else (if (lg_cmp u0 0) = 0 then (some (.inl (some (.int 0)), (jX f g n2 p pa s sa sw rp t, z))) else (some (.inl (some (.int 1)), (jX f g n2 p pa s sa sw rp t, z)))) := by
  cases sw
  · refine (jev_blk 5 (pc' := if (lg_cmp u0 (-9223372036854775808)) = 0 then 33 else 45) (L' := ([some (.ref 43), d1, d2, d3, some (.int x4), none, none], [none, none, none, none, none, some u0, none])) (S' := []) (h' := (jX f g n2 p pa s sa false rp t, z)) rfl).trans (jev_ite.trans (jite_congr (fun _ => ?_) (fun _ => ?_)))
    · refine (jev_blk 8 (pc' := if 0 < (lg_cmp x4.toInt64 (n2 0 0)) then 43 else 41) (L' := ([some (.ref 43), d1, d2, d3, some (.int x4), none, none], [none, none, none, none, none, some u0, none])) (S' := []) (h' := (jX f g n2 p pa s sa false rp t, z)) rfl).trans (jev_ite.trans (jite_congr (fun _ => ?_) (fun _ => ?_)))
      · refine (jev_blk 2 (pc' := 52) (L' := ([some (.ref 43), d1, d2, d3, some (.int x4), none, none], [none, none, none, none, none, some u0, none])) (S' := [.int 0]) (h' := (jX f g n2 p pa s sa false rp t, z)) rfl).trans ?_
        exact jev_fin rfl
      · refine (jev_blk 2 (pc' := 52) (L' := ([some (.ref 43), d1, d2, d3, some (.int x4), none, none], [none, none, none, none, none, some u0, none])) (S' := [.int 1]) (h' := (jX f g n2 p pa s sa false rp t, z)) rfl).trans ?_
        exact jev_fin rfl
    · refine (jev_blk 4 (pc' := if (lg_cmp u0 0) = 0 then 51 else 49) (L' := ([some (.ref 43), d1, d2, d3, some (.int x4), none, none], [none, none, none, none, none, some u0, none])) (S' := []) (h' := (jX f g n2 p pa s sa false rp t, z)) rfl).trans (jev_ite.trans (jite_congr (fun _ => ?_) (fun _ => ?_)))
      · refine (jev_blk 1 (pc' := 52) (L' := ([some (.ref 43), d1, d2, d3, some (.int x4), none, none], [none, none, none, none, none, some u0, none])) (S' := [.int 0]) (h' := (jX f g n2 p pa s sa false rp t, z)) rfl).trans ?_
        exact jev_fin rfl
      · refine (jev_blk 2 (pc' := 52) (L' := ([some (.ref 43), d1, d2, d3, some (.int x4), none, none], [none, none, none, none, none, some u0, none])) (S' := [.int 1]) (h' := (jX f g n2 p pa s sa false rp t, z)) rfl).trans ?_
        exact jev_fin rfl
  · refine (jev_blk 5 (pc' := if (lg_cmp u0 (-9223372036854775808)) = 0 then 33 else 45) (L' := ([some (.ref 43), d1, d2, d3, some (.int x4), none, none], [none, none, none, none, none, some u0, none])) (S' := []) (h' := (jX f g n2 p pa s sa true rp t, z)) rfl).trans (jev_ite.trans (jite_congr (fun _ => ?_) (fun _ => ?_)))
    · refine (jev_blk 8 (pc' := if 0 < (lg_cmp x4.toInt64 (n2 0 0)) then 43 else 41) (L' := ([some (.ref 43), d1, d2, d3, some (.int x4), none, none], [none, none, none, none, none, some u0, none])) (S' := []) (h' := (jX f g n2 p pa s sa true rp t, z)) rfl).trans (jev_ite.trans (jite_congr (fun _ => ?_) (fun _ => ?_)))
      · refine (jev_blk 2 (pc' := 52) (L' := ([some (.ref 43), d1, d2, d3, some (.int x4), none, none], [none, none, none, none, none, some u0, none])) (S' := [.int 0]) (h' := (jX f g n2 p pa s sa true rp t, z)) rfl).trans ?_
        exact jev_fin rfl
      · refine (jev_blk 2 (pc' := 52) (L' := ([some (.ref 43), d1, d2, d3, some (.int x4), none, none], [none, none, none, none, none, some u0, none])) (S' := [.int 1]) (h' := (jX f g n2 p pa s sa true rp t, z)) rfl).trans ?_
        exact jev_fin rfl
    · refine (jev_blk 4 (pc' := if (lg_cmp u0 0) = 0 then 51 else 49) (L' := ([some (.ref 43), d1, d2, d3, some (.int x4), none, none], [none, none, none, none, none, some u0, none])) (S' := []) (h' := (jX f g n2 p pa s sa true rp t, z)) rfl).trans (jev_ite.trans (jite_congr (fun _ => ?_) (fun _ => ?_)))
      · refine (jev_blk 1 (pc' := 52) (L' := ([some (.ref 43), d1, d2, d3, some (.int x4), none, none], [none, none, none, none, none, some u0, none])) (S' := [.int 0]) (h' := (jX f g n2 p pa s sa true rp t, z)) rfl).trans ?_
        exact jev_fin rfl
      · refine (jev_blk 2 (pc' := 52) (L' := ([some (.ref 43), d1, d2, d3, some (.int x4), none, none], [none, none, none, none, none, some u0, none])) (S' := [.int 1]) (h' := (jX f g n2 p pa s sa true rp t, z)) rfl).trans ?_
        exact jev_fin rfl
set_option maxRecDepth 20000 in
theorem E_h_seenBy {D : Nat} {j : Nat} {a1 : Int32} {f : Nat → Int32} {g : Nat → Nat → Int32} {n2 : Nat → Nat → Int64} {p : Nat → Nat → Int32} {pa : Nat → Nat → Nat → Int32} {s : Nat → Nat → Int32} {sa : Nat → Nat → Nat → Int32} {sw : Bool} {rp : Value} {t : List jE} {z : Nat × Nat × Nat × (Nat → Int32)} (hj : j < 3) : K_h_seenBy D j a1 f g n2 p pa s sa sw rp t z = jbO (K_h_sightOf D a1 f g n2 p pa s sa sw rp t z) (jk D 7 5 ([some (.ref 43), some (.ref (49 + 6 * j)), some (.int a1), none, none, none, none, none, none], []) [.ref (49 + 6 * j), .ref 43]) := by
  rcases jlt3 hj with rfl | rfl | rfl <;> cases sw
  · refine (jev_blk 4 (pc' := 4) (L' := ([some (.ref 43), some (.ref (49 + 6 * 0)), some (.int a1), none, none, none, none, none, none], [])) (S' := [.int a1, .ref 43, .ref (49 + 6 * 0), .ref 43]) (h' := (jX f g n2 p pa s sa false rp t, z)) rfl).trans ?_
    exact jev_callb (nx := 5) (rest := [.ref (49 + 6 * 0), .ref 43]) rfl
  · refine (jev_blk 4 (pc' := 4) (L' := ([some (.ref 43), some (.ref (49 + 6 * 0)), some (.int a1), none, none, none, none, none, none], [])) (S' := [.int a1, .ref 43, .ref (49 + 6 * 0), .ref 43]) (h' := (jX f g n2 p pa s sa true rp t, z)) rfl).trans ?_
    exact jev_callb (nx := 5) (rest := [.ref (49 + 6 * 0), .ref 43]) rfl
  · refine (jev_blk 4 (pc' := 4) (L' := ([some (.ref 43), some (.ref (49 + 6 * 1)), some (.int a1), none, none, none, none, none, none], [])) (S' := [.int a1, .ref 43, .ref (49 + 6 * 1), .ref 43]) (h' := (jX f g n2 p pa s sa false rp t, z)) rfl).trans ?_
    exact jev_callb (nx := 5) (rest := [.ref (49 + 6 * 1), .ref 43]) rfl
  · refine (jev_blk 4 (pc' := 4) (L' := ([some (.ref 43), some (.ref (49 + 6 * 1)), some (.int a1), none, none, none, none, none, none], [])) (S' := [.int a1, .ref 43, .ref (49 + 6 * 1), .ref 43]) (h' := (jX f g n2 p pa s sa true rp t, z)) rfl).trans ?_
    exact jev_callb (nx := 5) (rest := [.ref (49 + 6 * 1), .ref 43]) rfl
  · refine (jev_blk 4 (pc' := 4) (L' := ([some (.ref 43), some (.ref (49 + 6 * 2)), some (.int a1), none, none, none, none, none, none], [])) (S' := [.int a1, .ref 43, .ref (49 + 6 * 2), .ref 43]) (h' := (jX f g n2 p pa s sa false rp t, z)) rfl).trans ?_
    exact jev_callb (nx := 5) (rest := [.ref (49 + 6 * 2), .ref 43]) rfl
  · refine (jev_blk 4 (pc' := 4) (L' := ([some (.ref 43), some (.ref (49 + 6 * 2)), some (.int a1), none, none, none, none, none, none], [])) (S' := [.int a1, .ref 43, .ref (49 + 6 * 2), .ref 43]) (h' := (jX f g n2 p pa s sa true rp t, z)) rfl).trans ?_
    exact jev_callb (nx := 5) (rest := [.ref (49 + 6 * 2), .ref 43]) rfl
