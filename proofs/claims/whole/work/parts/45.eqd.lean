-- EQUATIONS: one a block; E_ unfolds, L_ a loop's head
set_option maxRecDepth 20000 in
theorem E_h_mealIn {D : Nat} {j : Nat} {a1 : Int32} {f : Nat → Int32} {g : Nat → Nat → Int32} {n2 : Nat → Nat → Int64} {p : Nat → Nat → Int32} {pa : Nat → Nat → Nat → Int32} {s : Nat → Nat → Int32} {sa : Nat → Nat → Nat → Int32} {sw : Bool} {rp : Value} {t : List jE} {z : Nat × Nat × Nat × (Nat → Int32)} (hj : j < 3) : K_h_mealIn D j a1 f g n2 p pa s sa sw rp t z = jbO (K_h_eatWorth D j a1 f g n2 p pa s sa sw rp t z) (jk D 13 4 ([some (.ref 43), some (.ref (49 + 6 * j)), some (.int a1), none, none], [none, none, none, none, none]) []) := by
  rcases jlt3 hj with rfl | rfl | rfl <;> cases sw
  · refine (jev_blk 3 (pc' := 3) (L' := ([some (.ref 43), some (.ref (49 + 6 * 0)), some (.int a1), none, none], [none, none, none, none, none])) (S' := [.int a1, .ref (49 + 6 * 0), .ref 43]) (h' := (jX f g n2 p pa s sa false rp t, z)) rfl).trans ?_
    exact jev_callb (nx := 4) (rest := []) rfl
  · refine (jev_blk 3 (pc' := 3) (L' := ([some (.ref 43), some (.ref (49 + 6 * 0)), some (.int a1), none, none], [none, none, none, none, none])) (S' := [.int a1, .ref (49 + 6 * 0), .ref 43]) (h' := (jX f g n2 p pa s sa true rp t, z)) rfl).trans ?_
    exact jev_callb (nx := 4) (rest := []) rfl
  · refine (jev_blk 3 (pc' := 3) (L' := ([some (.ref 43), some (.ref (49 + 6 * 1)), some (.int a1), none, none], [none, none, none, none, none])) (S' := [.int a1, .ref (49 + 6 * 1), .ref 43]) (h' := (jX f g n2 p pa s sa false rp t, z)) rfl).trans ?_
    exact jev_callb (nx := 4) (rest := []) rfl
  · refine (jev_blk 3 (pc' := 3) (L' := ([some (.ref 43), some (.ref (49 + 6 * 1)), some (.int a1), none, none], [none, none, none, none, none])) (S' := [.int a1, .ref (49 + 6 * 1), .ref 43]) (h' := (jX f g n2 p pa s sa true rp t, z)) rfl).trans ?_
    exact jev_callb (nx := 4) (rest := []) rfl
  · refine (jev_blk 3 (pc' := 3) (L' := ([some (.ref 43), some (.ref (49 + 6 * 2)), some (.int a1), none, none], [none, none, none, none, none])) (S' := [.int a1, .ref (49 + 6 * 2), .ref 43]) (h' := (jX f g n2 p pa s sa false rp t, z)) rfl).trans ?_
    exact jev_callb (nx := 4) (rest := []) rfl
  · refine (jev_blk 3 (pc' := 3) (L' := ([some (.ref 43), some (.ref (49 + 6 * 2)), some (.int a1), none, none], [none, none, none, none, none])) (S' := [.int a1, .ref (49 + 6 * 2), .ref 43]) (h' := (jX f g n2 p pa s sa true rp t, z)) rfl).trans ?_
    exact jev_callb (nx := 4) (rest := []) rfl
set_option maxRecDepth 20000 in
theorem E_h_mealIn_4 {D : Nat} {j : Nat} {x2 : Int32} {d3 : Option Value} {e3 : Option Int64} {d4 : Option Value} {u0 : Int64} {f : Nat → Int32} {g : Nat → Nat → Int32} {n2 : Nat → Nat → Int64} {p : Nat → Nat → Int32} {pa : Nat → Nat → Nat → Int32} {s : Nat → Nat → Int32} {sa : Nat → Nat → Nat → Int32} {sw : Bool} {rp : Value} {t : List jE} {z : Nat × Nat × Nat × (Nat → Int32)} (hj : j < 3) : jev D 13 4 ([some (.ref 43), some (.ref (49 + 6 * j)), some (.int x2), d3, d4], [none, none, none, e3, none]) [.long u0] (jX f g n2 p pa s sa sw rp t, z) = if jout x2 30 then none else (if (lg_cmp u0 (-9223372036854775808)) = 0 then (K_h_mealIn_19 D j (some (.ref (49 + 6 * j))) (some (.int x2)) none (some u0) none (p (jq sw) 7) (sa j 0 x2.toNatClampNeg) f g n2 p pa s sa sw rp t z) else (jbO (K_h_putBetween D u0 f g n2 p pa s sa sw rp t z) (jk D 13 19 ([some (.ref 43), some (.ref (49 + 6 * j)), some (.int x2), none, none], [none, none, none, some u0, none]) [.int (sa j 0 x2.toNatClampNeg)]))) := by
  rcases jlt3 hj with rfl | rfl | rfl <;> cases sw
  · refine (jev_blk 4 (pc' := 8) (L' := ([some (.ref 43), some (.ref (49 + 6 * 0)), some (.int x2), none, none], [none, none, none, some u0, none])) (S' := [.int x2, .ref (50 + 6 * 0 + 0)]) (h' := (jX f g n2 p pa s sa false rp t, z)) rfl).trans ?_
    refine (jev_grd (q := jout x2 30) (pc' := 9) (L' := ([some (.ref 43), some (.ref (49 + 6 * 0)), some (.int x2), none, none], [none, none, none, some u0, none])) (S' := [.int (sa 0 0 x2.toNatClampNeg)]) (h' := (jX f g n2 p pa s sa false rp t, z)) rfl).trans (jite_congr (fun _ => rfl) (fun _ => ?_))
    refine (jev_blk 4 (pc' := if (lg_cmp u0 (-9223372036854775808)) = 0 then 13 else 17) (L' := ([some (.ref 43), some (.ref (49 + 6 * 0)), some (.int x2), none, none], [none, none, none, some u0, none])) (S' := [.int (sa 0 0 x2.toNatClampNeg)]) (h' := (jX f g n2 p pa s sa false rp t, z)) rfl).trans (jev_ite.trans (jite_congr (fun _ => ?_) (fun _ => ?_)))
    · exact jev_blk 4 rfl
    · refine (jev_blk 1 (pc' := 18) (L' := ([some (.ref 43), some (.ref (49 + 6 * 0)), some (.int x2), none, none], [none, none, none, some u0, none])) (S' := [.long u0, .int (sa 0 0 x2.toNatClampNeg)]) (h' := (jX f g n2 p pa s sa false rp t, z)) rfl).trans ?_
      exact jev_callb (nx := 19) (rest := [.int (sa 0 0 x2.toNatClampNeg)]) rfl
  · refine (jev_blk 4 (pc' := 8) (L' := ([some (.ref 43), some (.ref (49 + 6 * 0)), some (.int x2), none, none], [none, none, none, some u0, none])) (S' := [.int x2, .ref (50 + 6 * 0 + 0)]) (h' := (jX f g n2 p pa s sa true rp t, z)) rfl).trans ?_
    refine (jev_grd (q := jout x2 30) (pc' := 9) (L' := ([some (.ref 43), some (.ref (49 + 6 * 0)), some (.int x2), none, none], [none, none, none, some u0, none])) (S' := [.int (sa 0 0 x2.toNatClampNeg)]) (h' := (jX f g n2 p pa s sa true rp t, z)) rfl).trans (jite_congr (fun _ => rfl) (fun _ => ?_))
    refine (jev_blk 4 (pc' := if (lg_cmp u0 (-9223372036854775808)) = 0 then 13 else 17) (L' := ([some (.ref 43), some (.ref (49 + 6 * 0)), some (.int x2), none, none], [none, none, none, some u0, none])) (S' := [.int (sa 0 0 x2.toNatClampNeg)]) (h' := (jX f g n2 p pa s sa true rp t, z)) rfl).trans (jev_ite.trans (jite_congr (fun _ => ?_) (fun _ => ?_)))
    · exact jev_blk 4 rfl
    · refine (jev_blk 1 (pc' := 18) (L' := ([some (.ref 43), some (.ref (49 + 6 * 0)), some (.int x2), none, none], [none, none, none, some u0, none])) (S' := [.long u0, .int (sa 0 0 x2.toNatClampNeg)]) (h' := (jX f g n2 p pa s sa true rp t, z)) rfl).trans ?_
      exact jev_callb (nx := 19) (rest := [.int (sa 0 0 x2.toNatClampNeg)]) rfl
  · refine (jev_blk 4 (pc' := 8) (L' := ([some (.ref 43), some (.ref (49 + 6 * 1)), some (.int x2), none, none], [none, none, none, some u0, none])) (S' := [.int x2, .ref (50 + 6 * 1 + 0)]) (h' := (jX f g n2 p pa s sa false rp t, z)) rfl).trans ?_
    refine (jev_grd (q := jout x2 30) (pc' := 9) (L' := ([some (.ref 43), some (.ref (49 + 6 * 1)), some (.int x2), none, none], [none, none, none, some u0, none])) (S' := [.int (sa 1 0 x2.toNatClampNeg)]) (h' := (jX f g n2 p pa s sa false rp t, z)) rfl).trans (jite_congr (fun _ => rfl) (fun _ => ?_))
    refine (jev_blk 4 (pc' := if (lg_cmp u0 (-9223372036854775808)) = 0 then 13 else 17) (L' := ([some (.ref 43), some (.ref (49 + 6 * 1)), some (.int x2), none, none], [none, none, none, some u0, none])) (S' := [.int (sa 1 0 x2.toNatClampNeg)]) (h' := (jX f g n2 p pa s sa false rp t, z)) rfl).trans (jev_ite.trans (jite_congr (fun _ => ?_) (fun _ => ?_)))
    · exact jev_blk 4 rfl
    · refine (jev_blk 1 (pc' := 18) (L' := ([some (.ref 43), some (.ref (49 + 6 * 1)), some (.int x2), none, none], [none, none, none, some u0, none])) (S' := [.long u0, .int (sa 1 0 x2.toNatClampNeg)]) (h' := (jX f g n2 p pa s sa false rp t, z)) rfl).trans ?_
      exact jev_callb (nx := 19) (rest := [.int (sa 1 0 x2.toNatClampNeg)]) rfl
  · refine (jev_blk 4 (pc' := 8) (L' := ([some (.ref 43), some (.ref (49 + 6 * 1)), some (.int x2), none, none], [none, none, none, some u0, none])) (S' := [.int x2, .ref (50 + 6 * 1 + 0)]) (h' := (jX f g n2 p pa s sa true rp t, z)) rfl).trans ?_
    refine (jev_grd (q := jout x2 30) (pc' := 9) (L' := ([some (.ref 43), some (.ref (49 + 6 * 1)), some (.int x2), none, none], [none, none, none, some u0, none])) (S' := [.int (sa 1 0 x2.toNatClampNeg)]) (h' := (jX f g n2 p pa s sa true rp t, z)) rfl).trans (jite_congr (fun _ => rfl) (fun _ => ?_))
    refine (jev_blk 4 (pc' := if (lg_cmp u0 (-9223372036854775808)) = 0 then 13 else 17) (L' := ([some (.ref 43), some (.ref (49 + 6 * 1)), some (.int x2), none, none], [none, none, none, some u0, none])) (S' := [.int (sa 1 0 x2.toNatClampNeg)]) (h' := (jX f g n2 p pa s sa true rp t, z)) rfl).trans (jev_ite.trans (jite_congr (fun _ => ?_) (fun _ => ?_)))
    · exact jev_blk 4 rfl
    · refine (jev_blk 1 (pc' := 18) (L' := ([some (.ref 43), some (.ref (49 + 6 * 1)), some (.int x2), none, none], [none, none, none, some u0, none])) (S' := [.long u0, .int (sa 1 0 x2.toNatClampNeg)]) (h' := (jX f g n2 p pa s sa true rp t, z)) rfl).trans ?_
      exact jev_callb (nx := 19) (rest := [.int (sa 1 0 x2.toNatClampNeg)]) rfl
  · refine (jev_blk 4 (pc' := 8) (L' := ([some (.ref 43), some (.ref (49 + 6 * 2)), some (.int x2), none, none], [none, none, none, some u0, none])) (S' := [.int x2, .ref (50 + 6 * 2 + 0)]) (h' := (jX f g n2 p pa s sa false rp t, z)) rfl).trans ?_
    refine (jev_grd (q := jout x2 30) (pc' := 9) (L' := ([some (.ref 43), some (.ref (49 + 6 * 2)), some (.int x2), none, none], [none, none, none, some u0, none])) (S' := [.int (sa 2 0 x2.toNatClampNeg)]) (h' := (jX f g n2 p pa s sa false rp t, z)) rfl).trans (jite_congr (fun _ => rfl) (fun _ => ?_))
    refine (jev_blk 4 (pc' := if (lg_cmp u0 (-9223372036854775808)) = 0 then 13 else 17) (L' := ([some (.ref 43), some (.ref (49 + 6 * 2)), some (.int x2), none, none], [none, none, none, some u0, none])) (S' := [.int (sa 2 0 x2.toNatClampNeg)]) (h' := (jX f g n2 p pa s sa false rp t, z)) rfl).trans (jev_ite.trans (jite_congr (fun _ => ?_) (fun _ => ?_)))
    · exact jev_blk 4 rfl
    · refine (jev_blk 1 (pc' := 18) (L' := ([some (.ref 43), some (.ref (49 + 6 * 2)), some (.int x2), none, none], [none, none, none, some u0, none])) (S' := [.long u0, .int (sa 2 0 x2.toNatClampNeg)]) (h' := (jX f g n2 p pa s sa false rp t, z)) rfl).trans ?_
      exact jev_callb (nx := 19) (rest := [.int (sa 2 0 x2.toNatClampNeg)]) rfl
  · refine (jev_blk 4 (pc' := 8) (L' := ([some (.ref 43), some (.ref (49 + 6 * 2)), some (.int x2), none, none], [none, none, none, some u0, none])) (S' := [.int x2, .ref (50 + 6 * 2 + 0)]) (h' := (jX f g n2 p pa s sa true rp t, z)) rfl).trans ?_
    refine (jev_grd (q := jout x2 30) (pc' := 9) (L' := ([some (.ref 43), some (.ref (49 + 6 * 2)), some (.int x2), none, none], [none, none, none, some u0, none])) (S' := [.int (sa 2 0 x2.toNatClampNeg)]) (h' := (jX f g n2 p pa s sa true rp t, z)) rfl).trans (jite_congr (fun _ => rfl) (fun _ => ?_))
    refine (jev_blk 4 (pc' := if (lg_cmp u0 (-9223372036854775808)) = 0 then 13 else 17) (L' := ([some (.ref 43), some (.ref (49 + 6 * 2)), some (.int x2), none, none], [none, none, none, some u0, none])) (S' := [.int (sa 2 0 x2.toNatClampNeg)]) (h' := (jX f g n2 p pa s sa true rp t, z)) rfl).trans (jev_ite.trans (jite_congr (fun _ => ?_) (fun _ => ?_)))
    · exact jev_blk 4 rfl
    · refine (jev_blk 1 (pc' := 18) (L' := ([some (.ref 43), some (.ref (49 + 6 * 2)), some (.int x2), none, none], [none, none, none, some u0, none])) (S' := [.long u0, .int (sa 2 0 x2.toNatClampNeg)]) (h' := (jX f g n2 p pa s sa true rp t, z)) rfl).trans ?_
      exact jev_callb (nx := 19) (rest := [.int (sa 2 0 x2.toNatClampNeg)]) rfl
set_option maxRecDepth 20000 in
theorem E_h_mealIn_19 {D : Nat} {j : Nat} {d1 : Option Value} {d2 : Option Value} {d3 : Option Value} {e3 : Option Int64} {d4 : Option Value} {u0 : Int32} {u1 : Int32} {f : Nat → Int32} {g : Nat → Nat → Int32} {n2 : Nat → Nat → Int64} {p : Nat → Nat → Int32} {pa : Nat → Nat → Nat → Int32} {s : Nat → Nat → Int32} {sa : Nat → Nat → Nat → Int32} {sw : Bool} {rp : Value} {t : List jE} {z : Nat × Nat × Nat × (Nat → Int32)} (hj : j < 3) : K_h_mealIn_19 D j d1 d2 d3 e3 d4 u0 u1 f g n2 p pa s sa sw rp t z = some (.inl (some (.int (if u0 < u1 then u0 else u1))), (jX f g n2 p pa s sa sw rp t, z)) := by
  rcases jlt3 hj with rfl | rfl | rfl <;> cases sw
  · refine (jev_prim (a := 8) (As := [.int u1, .int u0]) (nx := 20) (rest := []) rfl (r := some (.int (if u0 < u1 then u0 else u1))) (h' := (jX f g n2 p pa s sa false rp t, z)) rfl).trans ?_
    exact jev_fin rfl
  · refine (jev_prim (a := 8) (As := [.int u1, .int u0]) (nx := 20) (rest := []) rfl (r := some (.int (if u0 < u1 then u0 else u1))) (h' := (jX f g n2 p pa s sa true rp t, z)) rfl).trans ?_
    exact jev_fin rfl
  · refine (jev_prim (a := 8) (As := [.int u1, .int u0]) (nx := 20) (rest := []) rfl (r := some (.int (if u0 < u1 then u0 else u1))) (h' := (jX f g n2 p pa s sa false rp t, z)) rfl).trans ?_
    exact jev_fin rfl
  · refine (jev_prim (a := 8) (As := [.int u1, .int u0]) (nx := 20) (rest := []) rfl (r := some (.int (if u0 < u1 then u0 else u1))) (h' := (jX f g n2 p pa s sa true rp t, z)) rfl).trans ?_
    exact jev_fin rfl
  · refine (jev_prim (a := 8) (As := [.int u1, .int u0]) (nx := 20) (rest := []) rfl (r := some (.int (if u0 < u1 then u0 else u1))) (h' := (jX f g n2 p pa s sa false rp t, z)) rfl).trans ?_
    exact jev_fin rfl
  · refine (jev_prim (a := 8) (As := [.int u1, .int u0]) (nx := 20) (rest := []) rfl (r := some (.int (if u0 < u1 then u0 else u1))) (h' := (jX f g n2 p pa s sa true rp t, z)) rfl).trans ?_
    exact jev_fin rfl
theorem F_h_mealIn_19 {D : Nat}  {d1 : Option Value} {d2 : Option Value} {d3 : Option Value} {e3 : Option Int64} {d4 : Option Value} {u0 : Int32} {u1 : Int32} {f : Nat → Int32} {g : Nat → Nat → Int32} {n2 : Nat → Nat → Int64} {p : Nat → Nat → Int32} {pa : Nat → Nat → Nat → Int32} {s : Nat → Nat → Int32} {sa : Nat → Nat → Nat → Int32} {sw : Bool} {rp : Value} {t : List jE} {z : Nat × Nat × Nat × (Nat → Int32)} : jev D 13 19 ([some (.ref 43), d1, d2, d3, d4], [none, none, none, e3, none]) [.int u0, .int u1] (jX f g n2 p pa s sa sw rp t, z) = K_h_mealIn_19 D 0 d1 d2 d3 e3 d4 u0 u1 f g n2 p pa s sa sw rp t z := rfl
set_option maxRecDepth 20000 in
theorem E_h_wage {D : Nat} {j : Nat} {a1 : Int32} {f : Nat → Int32} {g : Nat → Nat → Int32} {n2 : Nat → Nat → Int64} {p : Nat → Nat → Int32} {pa : Nat → Nat → Nat → Int32} {s : Nat → Nat → Int32} {sa : Nat → Nat → Nat → Int32} {sw : Bool} {rp : Value} {t : List jE} {z : Nat × Nat × Nat × (Nat → Int32)} (hj : j < 3) : K_h_wage D j a1 f g n2 p pa s sa sw rp t z = jbO (K_h_payWorth D j a1 f g n2 p pa s sa sw rp t z) (jk D 14 4 ([some (.ref 43), some (.ref (49 + 6 * j)), some (.int a1), none, none], [none, none, none, none, none]) []) := by
  rcases jlt3 hj with rfl | rfl | rfl <;> cases sw
  · refine (jev_blk 3 (pc' := 3) (L' := ([some (.ref 43), some (.ref (49 + 6 * 0)), some (.int a1), none, none], [none, none, none, none, none])) (S' := [.int a1, .ref (49 + 6 * 0), .ref 43]) (h' := (jX f g n2 p pa s sa false rp t, z)) rfl).trans ?_
    exact jev_callb (nx := 4) (rest := []) rfl
  · refine (jev_blk 3 (pc' := 3) (L' := ([some (.ref 43), some (.ref (49 + 6 * 0)), some (.int a1), none, none], [none, none, none, none, none])) (S' := [.int a1, .ref (49 + 6 * 0), .ref 43]) (h' := (jX f g n2 p pa s sa true rp t, z)) rfl).trans ?_
    exact jev_callb (nx := 4) (rest := []) rfl
  · refine (jev_blk 3 (pc' := 3) (L' := ([some (.ref 43), some (.ref (49 + 6 * 1)), some (.int a1), none, none], [none, none, none, none, none])) (S' := [.int a1, .ref (49 + 6 * 1), .ref 43]) (h' := (jX f g n2 p pa s sa false rp t, z)) rfl).trans ?_
    exact jev_callb (nx := 4) (rest := []) rfl
  · refine (jev_blk 3 (pc' := 3) (L' := ([some (.ref 43), some (.ref (49 + 6 * 1)), some (.int a1), none, none], [none, none, none, none, none])) (S' := [.int a1, .ref (49 + 6 * 1), .ref 43]) (h' := (jX f g n2 p pa s sa true rp t, z)) rfl).trans ?_
    exact jev_callb (nx := 4) (rest := []) rfl
  · refine (jev_blk 3 (pc' := 3) (L' := ([some (.ref 43), some (.ref (49 + 6 * 2)), some (.int a1), none, none], [none, none, none, none, none])) (S' := [.int a1, .ref (49 + 6 * 2), .ref 43]) (h' := (jX f g n2 p pa s sa false rp t, z)) rfl).trans ?_
    exact jev_callb (nx := 4) (rest := []) rfl
  · refine (jev_blk 3 (pc' := 3) (L' := ([some (.ref 43), some (.ref (49 + 6 * 2)), some (.int a1), none, none], [none, none, none, none, none])) (S' := [.int a1, .ref (49 + 6 * 2), .ref 43]) (h' := (jX f g n2 p pa s sa true rp t, z)) rfl).trans ?_
    exact jev_callb (nx := 4) (rest := []) rfl
set_option maxRecDepth 20000 in
theorem E_h_wage_4 {D : Nat}  {d1 : Option Value} {x2 : Int32} {d3 : Option Value} {e3 : Option Int64} {d4 : Option Value} {u0 : Int64} {f : Nat → Int32} {g : Nat → Nat → Int32} {n2 : Nat → Nat → Int64} {p : Nat → Nat → Int32} {pa : Nat → Nat → Nat → Int32} {s : Nat → Nat → Int32} {sa : Nat → Nat → Nat → Int32} {sw : Bool} {rp : Value} {t : List jE} {z : Nat × Nat × Nat × (Nat → Int32)}  : jev D 14 4 ([some (.ref 43), d1, some (.int x2), d3, d4], [none, none, none, e3, none]) [.long u0] (jX f g n2 p pa s sa sw rp t, z) = if (lg_cmp u0 (-9223372036854775808)) = 0 then (if jout x2 6 then none else (some (.inl (some (.int (pa (jq sw) 4 x2.toNatClampNeg))), (jX f g n2 p pa s sa sw rp t, z)))) else (jbO (K_h_putBetween D u0 f g n2 p pa s sa sw rp t z) (jk D 14 17 ([some (.ref 43), d1, some (.int x2), none, none], [none, none, none, some u0, none]) [])) := by
  cases sw
  · refine (jev_blk 5 (pc' := if (lg_cmp u0 (-9223372036854775808)) = 0 then 9 else 15) (L' := ([some (.ref 43), d1, some (.int x2), none, none], [none, none, none, some u0, none])) (S' := []) (h' := (jX f g n2 p pa s sa false rp t, z)) rfl).trans (jev_ite.trans (jite_congr (fun _ => ?_) (fun _ => ?_)))
    · refine (jev_blk 4 (pc' := 13) (L' := ([some (.ref 43), d1, some (.int x2), none, none], [none, none, none, some u0, none])) (S' := [.int x2, .ref ((jpl false) + 5)]) (h' := (jX f g n2 p pa s sa false rp t, z)) rfl).trans ?_
      refine (jev_grd (q := jout x2 6) (pc' := 14) (L' := ([some (.ref 43), d1, some (.int x2), none, none], [none, none, none, some u0, none])) (S' := [.int (pa (jq false) 4 x2.toNatClampNeg)]) (h' := (jX f g n2 p pa s sa false rp t, z)) rfl).trans (jite_congr (fun _ => rfl) (fun _ => ?_))
      refine (jev_blk 1 (pc' := 17) (L' := ([some (.ref 43), d1, some (.int x2), none, none], [none, none, none, some u0, none])) (S' := [.int (pa (jq false) 4 x2.toNatClampNeg)]) (h' := (jX f g n2 p pa s sa false rp t, z)) rfl).trans ?_
      exact jev_fin rfl
    · refine (jev_blk 1 (pc' := 16) (L' := ([some (.ref 43), d1, some (.int x2), none, none], [none, none, none, some u0, none])) (S' := [.long u0]) (h' := (jX f g n2 p pa s sa false rp t, z)) rfl).trans ?_
      exact jev_callb (nx := 17) (rest := []) rfl
  · refine (jev_blk 5 (pc' := if (lg_cmp u0 (-9223372036854775808)) = 0 then 9 else 15) (L' := ([some (.ref 43), d1, some (.int x2), none, none], [none, none, none, some u0, none])) (S' := []) (h' := (jX f g n2 p pa s sa true rp t, z)) rfl).trans (jev_ite.trans (jite_congr (fun _ => ?_) (fun _ => ?_)))
    · refine (jev_blk 4 (pc' := 13) (L' := ([some (.ref 43), d1, some (.int x2), none, none], [none, none, none, some u0, none])) (S' := [.int x2, .ref ((jpl true) + 5)]) (h' := (jX f g n2 p pa s sa true rp t, z)) rfl).trans ?_
      refine (jev_grd (q := jout x2 6) (pc' := 14) (L' := ([some (.ref 43), d1, some (.int x2), none, none], [none, none, none, some u0, none])) (S' := [.int (pa (jq true) 4 x2.toNatClampNeg)]) (h' := (jX f g n2 p pa s sa true rp t, z)) rfl).trans (jite_congr (fun _ => rfl) (fun _ => ?_))
      refine (jev_blk 1 (pc' := 17) (L' := ([some (.ref 43), d1, some (.int x2), none, none], [none, none, none, some u0, none])) (S' := [.int (pa (jq true) 4 x2.toNatClampNeg)]) (h' := (jX f g n2 p pa s sa true rp t, z)) rfl).trans ?_
      exact jev_fin rfl
    · refine (jev_blk 1 (pc' := 16) (L' := ([some (.ref 43), d1, some (.int x2), none, none], [none, none, none, some u0, none])) (S' := [.long u0]) (h' := (jX f g n2 p pa s sa true rp t, z)) rfl).trans ?_
      exact jev_callb (nx := 17) (rest := []) rfl
set_option maxRecDepth 20000 in
theorem E_h_wage_17 {D : Nat}  {d1 : Option Value} {d2 : Option Value} {d3 : Option Value} {e3 : Option Int64} {d4 : Option Value} {u0 : Int32} {f : Nat → Int32} {g : Nat → Nat → Int32} {n2 : Nat → Nat → Int64} {p : Nat → Nat → Int32} {pa : Nat → Nat → Nat → Int32} {s : Nat → Nat → Int32} {sa : Nat → Nat → Nat → Int32} {sw : Bool} {rp : Value} {t : List jE} {z : Nat × Nat × Nat × (Nat → Int32)}  : jev D 14 17 ([some (.ref 43), d1, d2, d3, d4], [none, none, none, e3, none]) [.int u0] (jX f g n2 p pa s sa sw rp t, z) = some (.inl (some (.int u0)), (jX f g n2 p pa s sa sw rp t, z)) := by
  cases sw
  · exact jev_fin rfl
  · exact jev_fin rfl
set_option maxRecDepth 20000 in
theorem E_h_aim {D : Nat} {j : Nat}  {f : Nat → Int32} {g : Nat → Nat → Int32} {n2 : Nat → Nat → Int64} {p : Nat → Nat → Int32} {pa : Nat → Nat → Nat → Int32} {s : Nat → Nat → Int32} {sa : Nat → Nat → Nat → Int32} {sw : Bool} {rp : Value} {t : List jE} {z : Nat × Nat × Nat × (Nat → Int32)} (hj : j < 3) : K_h_aim D j f g n2 p pa s sa sw rp t z = if (f 16) = 0 then (if jout (s j 1) 12 then none else (K_h_aim_11 D j none none none none (sa j 1 (s j 1).toNatClampNeg) f g n2 p pa s sa sw rp t z)) else (K_h_aim_11 D j none none none none 0 f g n2 p pa s sa sw rp t z) := by
  rcases jlt3 hj with rfl | rfl | rfl <;> cases sw
  · refine (jev_blk 4 (pc' := if (f 16) = 0 then 6 else 4) (L' := ([some (.ref 43), some (.ref (49 + 6 * 0)), none, none, none, none], [])) (S' := []) (h' := (jX f g n2 p pa s sa false rp t, z)) rfl).trans (jev_ite.trans (jite_congr (fun _ => ?_) (fun _ => ?_)))
    · refine (jev_blk 4 (pc' := 10) (L' := ([some (.ref 43), some (.ref (49 + 6 * 0)), none, none, none, none], [])) (S' := [.int (s 0 1), .ref (50 + 6 * 0 + 1)]) (h' := (jX f g n2 p pa s sa false rp t, z)) rfl).trans ?_
      refine (jev_grd (q := jout (s 0 1) 12) (pc' := 11) (L' := ([some (.ref 43), some (.ref (49 + 6 * 0)), none, none, none, none], [])) (S' := [.int (sa 0 1 (s 0 1).toNatClampNeg)]) (h' := (jX f g n2 p pa s sa false rp t, z)) rfl).trans (jite_congr (fun _ => rfl) (fun _ => ?_))
      rfl
    · exact jev_blk 2 rfl
  · refine (jev_blk 4 (pc' := if (f 16) = 0 then 6 else 4) (L' := ([some (.ref 43), some (.ref (49 + 6 * 0)), none, none, none, none], [])) (S' := []) (h' := (jX f g n2 p pa s sa true rp t, z)) rfl).trans (jev_ite.trans (jite_congr (fun _ => ?_) (fun _ => ?_)))
    · refine (jev_blk 4 (pc' := 10) (L' := ([some (.ref 43), some (.ref (49 + 6 * 0)), none, none, none, none], [])) (S' := [.int (s 0 1), .ref (50 + 6 * 0 + 1)]) (h' := (jX f g n2 p pa s sa true rp t, z)) rfl).trans ?_
      refine (jev_grd (q := jout (s 0 1) 12) (pc' := 11) (L' := ([some (.ref 43), some (.ref (49 + 6 * 0)), none, none, none, none], [])) (S' := [.int (sa 0 1 (s 0 1).toNatClampNeg)]) (h' := (jX f g n2 p pa s sa true rp t, z)) rfl).trans (jite_congr (fun _ => rfl) (fun _ => ?_))
      rfl
    · exact jev_blk 2 rfl
  · refine (jev_blk 4 (pc' := if (f 16) = 0 then 6 else 4) (L' := ([some (.ref 43), some (.ref (49 + 6 * 1)), none, none, none, none], [])) (S' := []) (h' := (jX f g n2 p pa s sa false rp t, z)) rfl).trans (jev_ite.trans (jite_congr (fun _ => ?_) (fun _ => ?_)))
    · refine (jev_blk 4 (pc' := 10) (L' := ([some (.ref 43), some (.ref (49 + 6 * 1)), none, none, none, none], [])) (S' := [.int (s 1 1), .ref (50 + 6 * 1 + 1)]) (h' := (jX f g n2 p pa s sa false rp t, z)) rfl).trans ?_
      refine (jev_grd (q := jout (s 1 1) 12) (pc' := 11) (L' := ([some (.ref 43), some (.ref (49 + 6 * 1)), none, none, none, none], [])) (S' := [.int (sa 1 1 (s 1 1).toNatClampNeg)]) (h' := (jX f g n2 p pa s sa false rp t, z)) rfl).trans (jite_congr (fun _ => rfl) (fun _ => ?_))
      rfl
    · exact jev_blk 2 rfl
  · refine (jev_blk 4 (pc' := if (f 16) = 0 then 6 else 4) (L' := ([some (.ref 43), some (.ref (49 + 6 * 1)), none, none, none, none], [])) (S' := []) (h' := (jX f g n2 p pa s sa true rp t, z)) rfl).trans (jev_ite.trans (jite_congr (fun _ => ?_) (fun _ => ?_)))
    · refine (jev_blk 4 (pc' := 10) (L' := ([some (.ref 43), some (.ref (49 + 6 * 1)), none, none, none, none], [])) (S' := [.int (s 1 1), .ref (50 + 6 * 1 + 1)]) (h' := (jX f g n2 p pa s sa true rp t, z)) rfl).trans ?_
      refine (jev_grd (q := jout (s 1 1) 12) (pc' := 11) (L' := ([some (.ref 43), some (.ref (49 + 6 * 1)), none, none, none, none], [])) (S' := [.int (sa 1 1 (s 1 1).toNatClampNeg)]) (h' := (jX f g n2 p pa s sa true rp t, z)) rfl).trans (jite_congr (fun _ => rfl) (fun _ => ?_))
      rfl
    · exact jev_blk 2 rfl
  · refine (jev_blk 4 (pc' := if (f 16) = 0 then 6 else 4) (L' := ([some (.ref 43), some (.ref (49 + 6 * 2)), none, none, none, none], [])) (S' := []) (h' := (jX f g n2 p pa s sa false rp t, z)) rfl).trans (jev_ite.trans (jite_congr (fun _ => ?_) (fun _ => ?_)))
    · refine (jev_blk 4 (pc' := 10) (L' := ([some (.ref 43), some (.ref (49 + 6 * 2)), none, none, none, none], [])) (S' := [.int (s 2 1), .ref (50 + 6 * 2 + 1)]) (h' := (jX f g n2 p pa s sa false rp t, z)) rfl).trans ?_
      refine (jev_grd (q := jout (s 2 1) 12) (pc' := 11) (L' := ([some (.ref 43), some (.ref (49 + 6 * 2)), none, none, none, none], [])) (S' := [.int (sa 2 1 (s 2 1).toNatClampNeg)]) (h' := (jX f g n2 p pa s sa false rp t, z)) rfl).trans (jite_congr (fun _ => rfl) (fun _ => ?_))
      rfl
    · exact jev_blk 2 rfl
  · refine (jev_blk 4 (pc' := if (f 16) = 0 then 6 else 4) (L' := ([some (.ref 43), some (.ref (49 + 6 * 2)), none, none, none, none], [])) (S' := []) (h' := (jX f g n2 p pa s sa true rp t, z)) rfl).trans (jev_ite.trans (jite_congr (fun _ => ?_) (fun _ => ?_)))
    · refine (jev_blk 4 (pc' := 10) (L' := ([some (.ref 43), some (.ref (49 + 6 * 2)), none, none, none, none], [])) (S' := [.int (s 2 1), .ref (50 + 6 * 2 + 1)]) (h' := (jX f g n2 p pa s sa true rp t, z)) rfl).trans ?_
      refine (jev_grd (q := jout (s 2 1) 12) (pc' := 11) (L' := ([some (.ref 43), some (.ref (49 + 6 * 2)), none, none, none, none], [])) (S' := [.int (sa 2 1 (s 2 1).toNatClampNeg)]) (h' := (jX f g n2 p pa s sa true rp t, z)) rfl).trans (jite_congr (fun _ => rfl) (fun _ => ?_))
      rfl
    · exact jev_blk 2 rfl
set_option maxRecDepth 20000 in
theorem E_h_aim_11 {D : Nat} {j : Nat} {d2 : Option Value} {d3 : Option Value} {d4 : Option Value} {d5 : Option Value} {u0 : Int32} {f : Nat → Int32} {g : Nat → Nat → Int32} {n2 : Nat → Nat → Int64} {p : Nat → Nat → Int32} {pa : Nat → Nat → Nat → Int32} {s : Nat → Nat → Int32} {sa : Nat → Nat → Nat → Int32} {sw : Bool} {rp : Value} {t : List jE} {z : Nat × Nat × Nat × (Nat → Int32)} (hj : j < 3) : K_h_aim_11 D j d2 d3 d4 d5 u0 f g n2 p pa s sa sw rp t z = K_h_aim_18 D j u0 (-1) 0 0 f g n2 p pa s sa sw rp t z := by
  rcases jlt3 hj with rfl | rfl | rfl <;> cases sw
  · exact jev_blk 7 rfl
  · exact jev_blk 7 rfl
  · exact jev_blk 7 rfl
  · exact jev_blk 7 rfl
  · exact jev_blk 7 rfl
  · exact jev_blk 7 rfl
set_option maxRecDepth 20000 in
theorem L_h_aim_18 {D : Nat} {j : Nat} {x2 : Int32} {x3 : Int32} {x4 : Int32} {x5 : Int32} {f : Nat → Int32} {g : Nat → Nat → Int32} {n2 : Nat → Nat → Int64} {p : Nat → Nat → Int32} {pa : Nat → Nat → Nat → Int32} {s : Nat → Nat → Int32} {sa : Nat → Nat → Nat → Int32} {sw : Bool} {rp : Value} {t : List jE} {z : Nat × Nat × Nat × (Nat → Int32)} (hj : j < 3) : K_h_aim_18 D j x2 x3 x4 x5 f g n2 p pa s sa sw rp t z = jbO (K_p_cells D sw f g n2 p pa s sa sw rp t z) (jk D 15 22 ([some (.ref 43), some (.ref (49 + 6 * j)), some (.int x2), some (.int x3), some (.int x4), some (.int x5)], []) [.int x5]) := by
  rcases jlt3 hj with rfl | rfl | rfl <;> cases sw
  · refine (jev_blk 3 (pc' := 21) (L' := ([some (.ref 43), some (.ref (49 + 6 * 0)), some (.int x2), some (.int x3), some (.int x4), some (.int x5)], [])) (S' := [.ref (jpl false), .int x5]) (h' := (jX f g n2 p pa s sa false rp t, z)) rfl).trans ?_
    exact jev_callb (nx := 22) (rest := [.int x5]) rfl
  · refine (jev_blk 3 (pc' := 21) (L' := ([some (.ref 43), some (.ref (49 + 6 * 0)), some (.int x2), some (.int x3), some (.int x4), some (.int x5)], [])) (S' := [.ref (jpl true), .int x5]) (h' := (jX f g n2 p pa s sa true rp t, z)) rfl).trans ?_
    exact jev_callb (nx := 22) (rest := [.int x5]) rfl
  · refine (jev_blk 3 (pc' := 21) (L' := ([some (.ref 43), some (.ref (49 + 6 * 1)), some (.int x2), some (.int x3), some (.int x4), some (.int x5)], [])) (S' := [.ref (jpl false), .int x5]) (h' := (jX f g n2 p pa s sa false rp t, z)) rfl).trans ?_
    exact jev_callb (nx := 22) (rest := [.int x5]) rfl
  · refine (jev_blk 3 (pc' := 21) (L' := ([some (.ref 43), some (.ref (49 + 6 * 1)), some (.int x2), some (.int x3), some (.int x4), some (.int x5)], [])) (S' := [.ref (jpl true), .int x5]) (h' := (jX f g n2 p pa s sa true rp t, z)) rfl).trans ?_
    exact jev_callb (nx := 22) (rest := [.int x5]) rfl
  · refine (jev_blk 3 (pc' := 21) (L' := ([some (.ref 43), some (.ref (49 + 6 * 2)), some (.int x2), some (.int x3), some (.int x4), some (.int x5)], [])) (S' := [.ref (jpl false), .int x5]) (h' := (jX f g n2 p pa s sa false rp t, z)) rfl).trans ?_
    exact jev_callb (nx := 22) (rest := [.int x5]) rfl
  · refine (jev_blk 3 (pc' := 21) (L' := ([some (.ref 43), some (.ref (49 + 6 * 2)), some (.int x2), some (.int x3), some (.int x4), some (.int x5)], [])) (S' := [.ref (jpl true), .int x5]) (h' := (jX f g n2 p pa s sa true rp t, z)) rfl).trans ?_
    exact jev_callb (nx := 22) (rest := [.int x5]) rfl
set_option maxRecDepth 20000 in
theorem E_h_aim_22 {D : Nat} {j : Nat} {x2 : Int32} {x3 : Int32} {x4 : Int32} {x5 : Int32} {u0 : Int32} {u1 : Int32} {f : Nat → Int32} {g : Nat → Nat → Int32} {n2 : Nat → Nat → Int64} {p : Nat → Nat → Int32} {pa : Nat → Nat → Nat → Int32} {s : Nat → Nat → Int32} {sa : Nat → Nat → Nat → Int32} {sw : Bool} {rp : Value} {t : List jE} {z : Nat × Nat × Nat × (Nat → Int32)} (hj : j < 3) : jev D 15 22 ([some (.ref 43), some (.ref (49 + 6 * j)), some (.int x2), some (.int x3), some (.int x4), some (.int x5)], []) [.int u0, .int u1] (jX f g n2 p pa s sa sw rp t, z) = if u1 < u0 then (if ((x2 >>> (x5 &&& 31)) &&& 1) = 0 then (if jout x5 30 then none else (if x4 < (sa j 0 x5.toNatClampNeg) then (if jout x5 30 then none else (K_h_aim_42 D j x2 x5 (sa j 0 x5.toNatClampNeg) x5 f g n2 p pa s sa sw rp t z)) else (K_h_aim_42 D j x2 x3 x4 x5 f g n2 p pa s sa sw rp t z))) else (K_h_aim_42 D j x2 x3 x4 x5 f g n2 p pa s sa sw rp t z)) else (some (.inl (some (.int x3)), (jX f g n2 p pa s sa sw rp t, z))) := by
  rcases jlt3 hj with rfl | rfl | rfl <;> cases sw
  · refine (jev_blk 1 (pc' := if u1 < u0 then 23 else 44) (L' := ([some (.ref 43), some (.ref (49 + 6 * 0)), some (.int x2), some (.int x3), some (.int x4), some (.int x5)], [])) (S' := []) (h' := (jX f g n2 p pa s sa false rp t, z)) rfl).trans (jev_ite.trans (jite_congr (fun _ => ?_) (fun _ => ?_)))
    · refine (jev_blk 6 (pc' := if ((x2 >>> (x5 &&& 31)) &&& 1) = 0 then 29 else 42) (L' := ([some (.ref 43), some (.ref (49 + 6 * 0)), some (.int x2), some (.int x3), some (.int x4), some (.int x5)], [])) (S' := []) (h' := (jX f g n2 p pa s sa false rp t, z)) rfl).trans (jev_ite.trans (jite_congr (fun _ => ?_) (fun _ => ?_)))
      · refine (jev_blk 3 (pc' := 32) (L' := ([some (.ref 43), some (.ref (49 + 6 * 0)), some (.int x2), some (.int x3), some (.int x4), some (.int x5)], [])) (S' := [.int x5, .ref (50 + 6 * 0 + 0)]) (h' := (jX f g n2 p pa s sa false rp t, z)) rfl).trans ?_
        refine (jev_grd (q := jout x5 30) (pc' := 33) (L' := ([some (.ref 43), some (.ref (49 + 6 * 0)), some (.int x2), some (.int x3), some (.int x4), some (.int x5)], [])) (S' := [.int (sa 0 0 x5.toNatClampNeg)]) (h' := (jX f g n2 p pa s sa false rp t, z)) rfl).trans (jite_congr (fun _ => rfl) (fun _ => ?_))
        refine (jev_blk 2 (pc' := if x4 < (sa 0 0 x5.toNatClampNeg) then 35 else 42) (L' := ([some (.ref 43), some (.ref (49 + 6 * 0)), some (.int x2), some (.int x3), some (.int x4), some (.int x5)], [])) (S' := []) (h' := (jX f g n2 p pa s sa false rp t, z)) rfl).trans (jev_ite.trans (jite_congr (fun _ => ?_) (fun _ => ?_)))
        · refine (jev_blk 5 (pc' := 40) (L' := ([some (.ref 43), some (.ref (49 + 6 * 0)), some (.int x2), some (.int x5), some (.int x4), some (.int x5)], [])) (S' := [.int x5, .ref (50 + 6 * 0 + 0)]) (h' := (jX f g n2 p pa s sa false rp t, z)) rfl).trans ?_
          refine (jev_grd (q := jout x5 30) (pc' := 41) (L' := ([some (.ref 43), some (.ref (49 + 6 * 0)), some (.int x2), some (.int x5), some (.int x4), some (.int x5)], [])) (S' := [.int (sa 0 0 x5.toNatClampNeg)]) (h' := (jX f g n2 p pa s sa false rp t, z)) rfl).trans (jite_congr (fun _ => rfl) (fun _ => ?_))
          exact jev_blk 1 rfl
        · rfl
      · rfl
    · refine (jev_blk 1 (pc' := 45) (L' := ([some (.ref 43), some (.ref (49 + 6 * 0)), some (.int x2), some (.int x3), some (.int x4), some (.int x5)], [])) (S' := [.int x3]) (h' := (jX f g n2 p pa s sa false rp t, z)) rfl).trans ?_
      exact jev_fin rfl
  · refine (jev_blk 1 (pc' := if u1 < u0 then 23 else 44) (L' := ([some (.ref 43), some (.ref (49 + 6 * 0)), some (.int x2), some (.int x3), some (.int x4), some (.int x5)], [])) (S' := []) (h' := (jX f g n2 p pa s sa true rp t, z)) rfl).trans (jev_ite.trans (jite_congr (fun _ => ?_) (fun _ => ?_)))
    · refine (jev_blk 6 (pc' := if ((x2 >>> (x5 &&& 31)) &&& 1) = 0 then 29 else 42) (L' := ([some (.ref 43), some (.ref (49 + 6 * 0)), some (.int x2), some (.int x3), some (.int x4), some (.int x5)], [])) (S' := []) (h' := (jX f g n2 p pa s sa true rp t, z)) rfl).trans (jev_ite.trans (jite_congr (fun _ => ?_) (fun _ => ?_)))
      · refine (jev_blk 3 (pc' := 32) (L' := ([some (.ref 43), some (.ref (49 + 6 * 0)), some (.int x2), some (.int x3), some (.int x4), some (.int x5)], [])) (S' := [.int x5, .ref (50 + 6 * 0 + 0)]) (h' := (jX f g n2 p pa s sa true rp t, z)) rfl).trans ?_
        refine (jev_grd (q := jout x5 30) (pc' := 33) (L' := ([some (.ref 43), some (.ref (49 + 6 * 0)), some (.int x2), some (.int x3), some (.int x4), some (.int x5)], [])) (S' := [.int (sa 0 0 x5.toNatClampNeg)]) (h' := (jX f g n2 p pa s sa true rp t, z)) rfl).trans (jite_congr (fun _ => rfl) (fun _ => ?_))
        refine (jev_blk 2 (pc' := if x4 < (sa 0 0 x5.toNatClampNeg) then 35 else 42) (L' := ([some (.ref 43), some (.ref (49 + 6 * 0)), some (.int x2), some (.int x3), some (.int x4), some (.int x5)], [])) (S' := []) (h' := (jX f g n2 p pa s sa true rp t, z)) rfl).trans (jev_ite.trans (jite_congr (fun _ => ?_) (fun _ => ?_)))
        · refine (jev_blk 5 (pc' := 40) (L' := ([some (.ref 43), some (.ref (49 + 6 * 0)), some (.int x2), some (.int x5), some (.int x4), some (.int x5)], [])) (S' := [.int x5, .ref (50 + 6 * 0 + 0)]) (h' := (jX f g n2 p pa s sa true rp t, z)) rfl).trans ?_
          refine (jev_grd (q := jout x5 30) (pc' := 41) (L' := ([some (.ref 43), some (.ref (49 + 6 * 0)), some (.int x2), some (.int x5), some (.int x4), some (.int x5)], [])) (S' := [.int (sa 0 0 x5.toNatClampNeg)]) (h' := (jX f g n2 p pa s sa true rp t, z)) rfl).trans (jite_congr (fun _ => rfl) (fun _ => ?_))
          exact jev_blk 1 rfl
        · rfl
      · rfl
    · refine (jev_blk 1 (pc' := 45) (L' := ([some (.ref 43), some (.ref (49 + 6 * 0)), some (.int x2), some (.int x3), some (.int x4), some (.int x5)], [])) (S' := [.int x3]) (h' := (jX f g n2 p pa s sa true rp t, z)) rfl).trans ?_
      exact jev_fin rfl
  · refine (jev_blk 1 (pc' := if u1 < u0 then 23 else 44) (L' := ([some (.ref 43), some (.ref (49 + 6 * 1)), some (.int x2), some (.int x3), some (.int x4), some (.int x5)], [])) (S' := []) (h' := (jX f g n2 p pa s sa false rp t, z)) rfl).trans (jev_ite.trans (jite_congr (fun _ => ?_) (fun _ => ?_)))
    · refine (jev_blk 6 (pc' := if ((x2 >>> (x5 &&& 31)) &&& 1) = 0 then 29 else 42) (L' := ([some (.ref 43), some (.ref (49 + 6 * 1)), some (.int x2), some (.int x3), some (.int x4), some (.int x5)], [])) (S' := []) (h' := (jX f g n2 p pa s sa false rp t, z)) rfl).trans (jev_ite.trans (jite_congr (fun _ => ?_) (fun _ => ?_)))
      · refine (jev_blk 3 (pc' := 32) (L' := ([some (.ref 43), some (.ref (49 + 6 * 1)), some (.int x2), some (.int x3), some (.int x4), some (.int x5)], [])) (S' := [.int x5, .ref (50 + 6 * 1 + 0)]) (h' := (jX f g n2 p pa s sa false rp t, z)) rfl).trans ?_
        refine (jev_grd (q := jout x5 30) (pc' := 33) (L' := ([some (.ref 43), some (.ref (49 + 6 * 1)), some (.int x2), some (.int x3), some (.int x4), some (.int x5)], [])) (S' := [.int (sa 1 0 x5.toNatClampNeg)]) (h' := (jX f g n2 p pa s sa false rp t, z)) rfl).trans (jite_congr (fun _ => rfl) (fun _ => ?_))
        refine (jev_blk 2 (pc' := if x4 < (sa 1 0 x5.toNatClampNeg) then 35 else 42) (L' := ([some (.ref 43), some (.ref (49 + 6 * 1)), some (.int x2), some (.int x3), some (.int x4), some (.int x5)], [])) (S' := []) (h' := (jX f g n2 p pa s sa false rp t, z)) rfl).trans (jev_ite.trans (jite_congr (fun _ => ?_) (fun _ => ?_)))
        · refine (jev_blk 5 (pc' := 40) (L' := ([some (.ref 43), some (.ref (49 + 6 * 1)), some (.int x2), some (.int x5), some (.int x4), some (.int x5)], [])) (S' := [.int x5, .ref (50 + 6 * 1 + 0)]) (h' := (jX f g n2 p pa s sa false rp t, z)) rfl).trans ?_
          refine (jev_grd (q := jout x5 30) (pc' := 41) (L' := ([some (.ref 43), some (.ref (49 + 6 * 1)), some (.int x2), some (.int x5), some (.int x4), some (.int x5)], [])) (S' := [.int (sa 1 0 x5.toNatClampNeg)]) (h' := (jX f g n2 p pa s sa false rp t, z)) rfl).trans (jite_congr (fun _ => rfl) (fun _ => ?_))
          exact jev_blk 1 rfl
        · rfl
      · rfl
    · refine (jev_blk 1 (pc' := 45) (L' := ([some (.ref 43), some (.ref (49 + 6 * 1)), some (.int x2), some (.int x3), some (.int x4), some (.int x5)], [])) (S' := [.int x3]) (h' := (jX f g n2 p pa s sa false rp t, z)) rfl).trans ?_
      exact jev_fin rfl
  · refine (jev_blk 1 (pc' := if u1 < u0 then 23 else 44) (L' := ([some (.ref 43), some (.ref (49 + 6 * 1)), some (.int x2), some (.int x3), some (.int x4), some (.int x5)], [])) (S' := []) (h' := (jX f g n2 p pa s sa true rp t, z)) rfl).trans (jev_ite.trans (jite_congr (fun _ => ?_) (fun _ => ?_)))
    · refine (jev_blk 6 (pc' := if ((x2 >>> (x5 &&& 31)) &&& 1) = 0 then 29 else 42) (L' := ([some (.ref 43), some (.ref (49 + 6 * 1)), some (.int x2), some (.int x3), some (.int x4), some (.int x5)], [])) (S' := []) (h' := (jX f g n2 p pa s sa true rp t, z)) rfl).trans (jev_ite.trans (jite_congr (fun _ => ?_) (fun _ => ?_)))
      · refine (jev_blk 3 (pc' := 32) (L' := ([some (.ref 43), some (.ref (49 + 6 * 1)), some (.int x2), some (.int x3), some (.int x4), some (.int x5)], [])) (S' := [.int x5, .ref (50 + 6 * 1 + 0)]) (h' := (jX f g n2 p pa s sa true rp t, z)) rfl).trans ?_
        refine (jev_grd (q := jout x5 30) (pc' := 33) (L' := ([some (.ref 43), some (.ref (49 + 6 * 1)), some (.int x2), some (.int x3), some (.int x4), some (.int x5)], [])) (S' := [.int (sa 1 0 x5.toNatClampNeg)]) (h' := (jX f g n2 p pa s sa true rp t, z)) rfl).trans (jite_congr (fun _ => rfl) (fun _ => ?_))
        refine (jev_blk 2 (pc' := if x4 < (sa 1 0 x5.toNatClampNeg) then 35 else 42) (L' := ([some (.ref 43), some (.ref (49 + 6 * 1)), some (.int x2), some (.int x3), some (.int x4), some (.int x5)], [])) (S' := []) (h' := (jX f g n2 p pa s sa true rp t, z)) rfl).trans (jev_ite.trans (jite_congr (fun _ => ?_) (fun _ => ?_)))
        · refine (jev_blk 5 (pc' := 40) (L' := ([some (.ref 43), some (.ref (49 + 6 * 1)), some (.int x2), some (.int x5), some (.int x4), some (.int x5)], [])) (S' := [.int x5, .ref (50 + 6 * 1 + 0)]) (h' := (jX f g n2 p pa s sa true rp t, z)) rfl).trans ?_
          refine (jev_grd (q := jout x5 30) (pc' := 41) (L' := ([some (.ref 43), some (.ref (49 + 6 * 1)), some (.int x2), some (.int x5), some (.int x4), some (.int x5)], [])) (S' := [.int (sa 1 0 x5.toNatClampNeg)]) (h' := (jX f g n2 p pa s sa true rp t, z)) rfl).trans (jite_congr (fun _ => rfl) (fun _ => ?_))
          exact jev_blk 1 rfl
        · rfl
      · rfl
    · refine (jev_blk 1 (pc' := 45) (L' := ([some (.ref 43), some (.ref (49 + 6 * 1)), some (.int x2), some (.int x3), some (.int x4), some (.int x5)], [])) (S' := [.int x3]) (h' := (jX f g n2 p pa s sa true rp t, z)) rfl).trans ?_
      exact jev_fin rfl
  · refine (jev_blk 1 (pc' := if u1 < u0 then 23 else 44) (L' := ([some (.ref 43), some (.ref (49 + 6 * 2)), some (.int x2), some (.int x3), some (.int x4), some (.int x5)], [])) (S' := []) (h' := (jX f g n2 p pa s sa false rp t, z)) rfl).trans (jev_ite.trans (jite_congr (fun _ => ?_) (fun _ => ?_)))
    · refine (jev_blk 6 (pc' := if ((x2 >>> (x5 &&& 31)) &&& 1) = 0 then 29 else 42) (L' := ([some (.ref 43), some (.ref (49 + 6 * 2)), some (.int x2), some (.int x3), some (.int x4), some (.int x5)], [])) (S' := []) (h' := (jX f g n2 p pa s sa false rp t, z)) rfl).trans (jev_ite.trans (jite_congr (fun _ => ?_) (fun _ => ?_)))
      · refine (jev_blk 3 (pc' := 32) (L' := ([some (.ref 43), some (.ref (49 + 6 * 2)), some (.int x2), some (.int x3), some (.int x4), some (.int x5)], [])) (S' := [.int x5, .ref (50 + 6 * 2 + 0)]) (h' := (jX f g n2 p pa s sa false rp t, z)) rfl).trans ?_
        refine (jev_grd (q := jout x5 30) (pc' := 33) (L' := ([some (.ref 43), some (.ref (49 + 6 * 2)), some (.int x2), some (.int x3), some (.int x4), some (.int x5)], [])) (S' := [.int (sa 2 0 x5.toNatClampNeg)]) (h' := (jX f g n2 p pa s sa false rp t, z)) rfl).trans (jite_congr (fun _ => rfl) (fun _ => ?_))
        refine (jev_blk 2 (pc' := if x4 < (sa 2 0 x5.toNatClampNeg) then 35 else 42) (L' := ([some (.ref 43), some (.ref (49 + 6 * 2)), some (.int x2), some (.int x3), some (.int x4), some (.int x5)], [])) (S' := []) (h' := (jX f g n2 p pa s sa false rp t, z)) rfl).trans (jev_ite.trans (jite_congr (fun _ => ?_) (fun _ => ?_)))
        · refine (jev_blk 5 (pc' := 40) (L' := ([some (.ref 43), some (.ref (49 + 6 * 2)), some (.int x2), some (.int x5), some (.int x4), some (.int x5)], [])) (S' := [.int x5, .ref (50 + 6 * 2 + 0)]) (h' := (jX f g n2 p pa s sa false rp t, z)) rfl).trans ?_
          refine (jev_grd (q := jout x5 30) (pc' := 41) (L' := ([some (.ref 43), some (.ref (49 + 6 * 2)), some (.int x2), some (.int x5), some (.int x4), some (.int x5)], [])) (S' := [.int (sa 2 0 x5.toNatClampNeg)]) (h' := (jX f g n2 p pa s sa false rp t, z)) rfl).trans (jite_congr (fun _ => rfl) (fun _ => ?_))
          exact jev_blk 1 rfl
        · rfl
      · rfl
    · refine (jev_blk 1 (pc' := 45) (L' := ([some (.ref 43), some (.ref (49 + 6 * 2)), some (.int x2), some (.int x3), some (.int x4), some (.int x5)], [])) (S' := [.int x3]) (h' := (jX f g n2 p pa s sa false rp t, z)) rfl).trans ?_
      exact jev_fin rfl
  · refine (jev_blk 1 (pc' := if u1 < u0 then 23 else 44) (L' := ([some (.ref 43), some (.ref (49 + 6 * 2)), some (.int x2), some (.int x3), some (.int x4), some (.int x5)], [])) (S' := []) (h' := (jX f g n2 p pa s sa true rp t, z)) rfl).trans (jev_ite.trans (jite_congr (fun _ => ?_) (fun _ => ?_)))
    · refine (jev_blk 6 (pc' := if ((x2 >>> (x5 &&& 31)) &&& 1) = 0 then 29 else 42) (L' := ([some (.ref 43), some (.ref (49 + 6 * 2)), some (.int x2), some (.int x3), some (.int x4), some (.int x5)], [])) (S' := []) (h' := (jX f g n2 p pa s sa true rp t, z)) rfl).trans (jev_ite.trans (jite_congr (fun _ => ?_) (fun _ => ?_)))
      · refine (jev_blk 3 (pc' := 32) (L' := ([some (.ref 43), some (.ref (49 + 6 * 2)), some (.int x2), some (.int x3), some (.int x4), some (.int x5)], [])) (S' := [.int x5, .ref (50 + 6 * 2 + 0)]) (h' := (jX f g n2 p pa s sa true rp t, z)) rfl).trans ?_
        refine (jev_grd (q := jout x5 30) (pc' := 33) (L' := ([some (.ref 43), some (.ref (49 + 6 * 2)), some (.int x2), some (.int x3), some (.int x4), some (.int x5)], [])) (S' := [.int (sa 2 0 x5.toNatClampNeg)]) (h' := (jX f g n2 p pa s sa true rp t, z)) rfl).trans (jite_congr (fun _ => rfl) (fun _ => ?_))
        refine (jev_blk 2 (pc' := if x4 < (sa 2 0 x5.toNatClampNeg) then 35 else 42) (L' := ([some (.ref 43), some (.ref (49 + 6 * 2)), some (.int x2), some (.int x3), some (.int x4), some (.int x5)], [])) (S' := []) (h' := (jX f g n2 p pa s sa true rp t, z)) rfl).trans (jev_ite.trans (jite_congr (fun _ => ?_) (fun _ => ?_)))
        · refine (jev_blk 5 (pc' := 40) (L' := ([some (.ref 43), some (.ref (49 + 6 * 2)), some (.int x2), some (.int x5), some (.int x4), some (.int x5)], [])) (S' := [.int x5, .ref (50 + 6 * 2 + 0)]) (h' := (jX f g n2 p pa s sa true rp t, z)) rfl).trans ?_
          refine (jev_grd (q := jout x5 30) (pc' := 41) (L' := ([some (.ref 43), some (.ref (49 + 6 * 2)), some (.int x2), some (.int x5), some (.int x4), some (.int x5)], [])) (S' := [.int (sa 2 0 x5.toNatClampNeg)]) (h' := (jX f g n2 p pa s sa true rp t, z)) rfl).trans (jite_congr (fun _ => rfl) (fun _ => ?_))
          exact jev_blk 1 rfl
        · rfl
      · rfl
    · refine (jev_blk 1 (pc' := 45) (L' := ([some (.ref 43), some (.ref (49 + 6 * 2)), some (.int x2), some (.int x3), some (.int x4), some (.int x5)], [])) (S' := [.int x3]) (h' := (jX f g n2 p pa s sa true rp t, z)) rfl).trans ?_
      exact jev_fin rfl
set_option maxRecDepth 20000 in
theorem E_h_aim_42 {D : Nat} {j : Nat} {x2 : Int32} {x3 : Int32} {x4 : Int32} {x5 : Int32} {f : Nat → Int32} {g : Nat → Nat → Int32} {n2 : Nat → Nat → Int64} {p : Nat → Nat → Int32} {pa : Nat → Nat → Nat → Int32} {s : Nat → Nat → Int32} {sa : Nat → Nat → Nat → Int32} {sw : Bool} {rp : Value} {t : List jE} {z : Nat × Nat × Nat × (Nat → Int32)} (hj : j < 3) : K_h_aim_42 D j x2 x3 x4 x5 f g n2 p pa s sa sw rp t z = K_h_aim_18 D j x2 x3 x4 (x5 + 1) f g n2 p pa s sa sw rp t z := by
  rcases jlt3 hj with rfl | rfl | rfl <;> cases sw
  · exact jev_blk 2 rfl
  · exact jev_blk 2 rfl
  · exact jev_blk 2 rfl
  · exact jev_blk 2 rfl
  · exact jev_blk 2 rfl
  · exact jev_blk 2 rfl
set_option maxRecDepth 20000 in
theorem E_h_pass {D : Nat} {j : Nat}  {f : Nat → Int32} {g : Nat → Nat → Int32} {n2 : Nat → Nat → Int64} {p : Nat → Nat → Int32} {pa : Nat → Nat → Nat → Int32} {s : Nat → Nat → Int32} {sa : Nat → Nat → Nat → Int32} {sw : Bool} {rp : Value} {t : List jE} {z : Nat × Nat × Nat × (Nat → Int32)} (hj : j < 3) : K_h_pass D j f g n2 p pa s sa sw rp t z = K_h_pass_4 D j 0 0 none f g n2 p pa s sa sw rp t z := by
  rcases jlt3 hj with rfl | rfl | rfl <;> cases sw
  · exact jev_blk 4 rfl
  · exact jev_blk 4 rfl
  · exact jev_blk 4 rfl
  · exact jev_blk 4 rfl
  · exact jev_blk 4 rfl
  · exact jev_blk 4 rfl
set_option maxRecDepth 20000 in
theorem L_h_pass_4 {D : Nat} {j : Nat} {x2 : Int32} {x3 : Int32} {d4 : Option Value} {f : Nat → Int32} {g : Nat → Nat → Int32} {n2 : Nat → Nat → Int64} {p : Nat → Nat → Int32} {pa : Nat → Nat → Nat → Int32} {s : Nat → Nat → Int32} {sa : Nat → Nat → Nat → Int32} {sw : Bool} {rp : Value} {t : List jE} {z : Nat × Nat × Nat × (Nat → Int32)} (hj : j < 3) : K_h_pass_4 D j x2 x3 d4 f g n2 p pa s sa sw rp t z = if x3 < (p (jq sw) 3) then (jbO (K_h_flapping D j x3 f g n2 p pa s sa sw rp t z) (jk D 16 13 ([some (.ref 43), some (.ref (49 + 6 * j)), some (.int x2), some (.int x3), d4], []) [])) else (jbO (K_h_aim D j f g n2 p pa s sa sw rp t z) (jk D 16 48 ([some (.ref 43), some (.ref (49 + 6 * j)), some (.int x2), some (.int x3), d4], []) [])) := by
  rcases jlt3 hj with rfl | rfl | rfl <;> cases sw
  · refine (jev_blk 5 (pc' := if x3 < (p (jq false) 3) then 9 else 45) (L' := ([some (.ref 43), some (.ref (49 + 6 * 0)), some (.int x2), some (.int x3), d4], [])) (S' := []) (h' := (jX f g n2 p pa s sa false rp t, z)) rfl).trans (jev_ite.trans (jite_congr (fun _ => ?_) (fun _ => ?_)))
    · refine (jev_blk 3 (pc' := 12) (L' := ([some (.ref 43), some (.ref (49 + 6 * 0)), some (.int x2), some (.int x3), d4], [])) (S' := [.int x3, .ref (49 + 6 * 0), .ref 43]) (h' := (jX f g n2 p pa s sa false rp t, z)) rfl).trans ?_
      exact jev_callb (nx := 13) (rest := []) rfl
    · refine (jev_blk 2 (pc' := 47) (L' := ([some (.ref 43), some (.ref (49 + 6 * 0)), some (.int x2), some (.int x3), d4], [])) (S' := [.ref (49 + 6 * 0), .ref 43]) (h' := (jX f g n2 p pa s sa false rp t, z)) rfl).trans ?_
      exact jev_callb (nx := 48) (rest := []) rfl
  · refine (jev_blk 5 (pc' := if x3 < (p (jq true) 3) then 9 else 45) (L' := ([some (.ref 43), some (.ref (49 + 6 * 0)), some (.int x2), some (.int x3), d4], [])) (S' := []) (h' := (jX f g n2 p pa s sa true rp t, z)) rfl).trans (jev_ite.trans (jite_congr (fun _ => ?_) (fun _ => ?_)))
    · refine (jev_blk 3 (pc' := 12) (L' := ([some (.ref 43), some (.ref (49 + 6 * 0)), some (.int x2), some (.int x3), d4], [])) (S' := [.int x3, .ref (49 + 6 * 0), .ref 43]) (h' := (jX f g n2 p pa s sa true rp t, z)) rfl).trans ?_
      exact jev_callb (nx := 13) (rest := []) rfl
    · refine (jev_blk 2 (pc' := 47) (L' := ([some (.ref 43), some (.ref (49 + 6 * 0)), some (.int x2), some (.int x3), d4], [])) (S' := [.ref (49 + 6 * 0), .ref 43]) (h' := (jX f g n2 p pa s sa true rp t, z)) rfl).trans ?_
      exact jev_callb (nx := 48) (rest := []) rfl
  · refine (jev_blk 5 (pc' := if x3 < (p (jq false) 3) then 9 else 45) (L' := ([some (.ref 43), some (.ref (49 + 6 * 1)), some (.int x2), some (.int x3), d4], [])) (S' := []) (h' := (jX f g n2 p pa s sa false rp t, z)) rfl).trans (jev_ite.trans (jite_congr (fun _ => ?_) (fun _ => ?_)))
    · refine (jev_blk 3 (pc' := 12) (L' := ([some (.ref 43), some (.ref (49 + 6 * 1)), some (.int x2), some (.int x3), d4], [])) (S' := [.int x3, .ref (49 + 6 * 1), .ref 43]) (h' := (jX f g n2 p pa s sa false rp t, z)) rfl).trans ?_
      exact jev_callb (nx := 13) (rest := []) rfl
    · refine (jev_blk 2 (pc' := 47) (L' := ([some (.ref 43), some (.ref (49 + 6 * 1)), some (.int x2), some (.int x3), d4], [])) (S' := [.ref (49 + 6 * 1), .ref 43]) (h' := (jX f g n2 p pa s sa false rp t, z)) rfl).trans ?_
      exact jev_callb (nx := 48) (rest := []) rfl
  · refine (jev_blk 5 (pc' := if x3 < (p (jq true) 3) then 9 else 45) (L' := ([some (.ref 43), some (.ref (49 + 6 * 1)), some (.int x2), some (.int x3), d4], [])) (S' := []) (h' := (jX f g n2 p pa s sa true rp t, z)) rfl).trans (jev_ite.trans (jite_congr (fun _ => ?_) (fun _ => ?_)))
    · refine (jev_blk 3 (pc' := 12) (L' := ([some (.ref 43), some (.ref (49 + 6 * 1)), some (.int x2), some (.int x3), d4], [])) (S' := [.int x3, .ref (49 + 6 * 1), .ref 43]) (h' := (jX f g n2 p pa s sa true rp t, z)) rfl).trans ?_
      exact jev_callb (nx := 13) (rest := []) rfl
    · refine (jev_blk 2 (pc' := 47) (L' := ([some (.ref 43), some (.ref (49 + 6 * 1)), some (.int x2), some (.int x3), d4], [])) (S' := [.ref (49 + 6 * 1), .ref 43]) (h' := (jX f g n2 p pa s sa true rp t, z)) rfl).trans ?_
      exact jev_callb (nx := 48) (rest := []) rfl
  · refine (jev_blk 5 (pc' := if x3 < (p (jq false) 3) then 9 else 45) (L' := ([some (.ref 43), some (.ref (49 + 6 * 2)), some (.int x2), some (.int x3), d4], [])) (S' := []) (h' := (jX f g n2 p pa s sa false rp t, z)) rfl).trans (jev_ite.trans (jite_congr (fun _ => ?_) (fun _ => ?_)))
    · refine (jev_blk 3 (pc' := 12) (L' := ([some (.ref 43), some (.ref (49 + 6 * 2)), some (.int x2), some (.int x3), d4], [])) (S' := [.int x3, .ref (49 + 6 * 2), .ref 43]) (h' := (jX f g n2 p pa s sa false rp t, z)) rfl).trans ?_
      exact jev_callb (nx := 13) (rest := []) rfl
    · refine (jev_blk 2 (pc' := 47) (L' := ([some (.ref 43), some (.ref (49 + 6 * 2)), some (.int x2), some (.int x3), d4], [])) (S' := [.ref (49 + 6 * 2), .ref 43]) (h' := (jX f g n2 p pa s sa false rp t, z)) rfl).trans ?_
      exact jev_callb (nx := 48) (rest := []) rfl
  · refine (jev_blk 5 (pc' := if x3 < (p (jq true) 3) then 9 else 45) (L' := ([some (.ref 43), some (.ref (49 + 6 * 2)), some (.int x2), some (.int x3), d4], [])) (S' := []) (h' := (jX f g n2 p pa s sa true rp t, z)) rfl).trans (jev_ite.trans (jite_congr (fun _ => ?_) (fun _ => ?_)))
    · refine (jev_blk 3 (pc' := 12) (L' := ([some (.ref 43), some (.ref (49 + 6 * 2)), some (.int x2), some (.int x3), d4], [])) (S' := [.int x3, .ref (49 + 6 * 2), .ref 43]) (h' := (jX f g n2 p pa s sa true rp t, z)) rfl).trans ?_
      exact jev_callb (nx := 13) (rest := []) rfl
    · refine (jev_blk 2 (pc' := 47) (L' := ([some (.ref 43), some (.ref (49 + 6 * 2)), some (.int x2), some (.int x3), d4], [])) (S' := [.ref (49 + 6 * 2), .ref 43]) (h' := (jX f g n2 p pa s sa true rp t, z)) rfl).trans ?_
      exact jev_callb (nx := 48) (rest := []) rfl
set_option maxRecDepth 20000 in
theorem E_h_pass_13 {D : Nat} {j : Nat} {x2 : Int32} {x3 : Int32} {d4 : Option Value} {u0 : Int32} {f : Nat → Int32} {g : Nat → Nat → Int32} {n2 : Nat → Nat → Int64} {p : Nat → Nat → Int32} {pa : Nat → Nat → Nat → Int32} {s : Nat → Nat → Int32} {sa : Nat → Nat → Nat → Int32} {sw : Bool} {rp : Value} {t : List jE} {z : Nat × Nat × Nat × (Nat → Int32)} (hj : j < 3) : jev D 16 13 ([some (.ref 43), some (.ref (49 + 6 * j)), some (.int x2), some (.int x3), d4], []) [.int u0] (jX f g n2 p pa s sa sw rp t, z) = if u0 = 1 then (jbO (K_h_wage D j x3 f g n2 p pa s sa sw rp t z) (jk D 16 24 ([some (.ref 43), some (.ref (49 + 6 * j)), some (.int x2), some (.int x3), some (.int u0)], []) [.int (s j 4), .ref (49 + 6 * j)])) else (K_h_pass_34 D j x2 x3 u0 f g n2 p pa s sa sw rp t z) := by
  rcases jlt3 hj with rfl | rfl | rfl <;> cases sw
  · refine (jev_blk 4 (pc' := if u0 = 1 then 17 else 34) (L' := ([some (.ref 43), some (.ref (49 + 6 * 0)), some (.int x2), some (.int x3), some (.int u0)], [])) (S' := []) (h' := (jX f g n2 p pa s sa false rp t, z)) rfl).trans (jev_ite.trans (jite_congr (fun _ => ?_) (fun _ => ?_)))
    · refine (jev_blk 6 (pc' := 23) (L' := ([some (.ref 43), some (.ref (49 + 6 * 0)), some (.int x2), some (.int x3), some (.int u0)], [])) (S' := [.int x3, .ref (49 + 6 * 0), .ref 43, .int (s 0 4), .ref (49 + 6 * 0)]) (h' := (jX f g n2 p pa s sa false rp t, z)) rfl).trans ?_
      exact jev_callb (nx := 24) (rest := [.int (s 0 4), .ref (49 + 6 * 0)]) rfl
    · rfl
  · refine (jev_blk 4 (pc' := if u0 = 1 then 17 else 34) (L' := ([some (.ref 43), some (.ref (49 + 6 * 0)), some (.int x2), some (.int x3), some (.int u0)], [])) (S' := []) (h' := (jX f g n2 p pa s sa true rp t, z)) rfl).trans (jev_ite.trans (jite_congr (fun _ => ?_) (fun _ => ?_)))
    · refine (jev_blk 6 (pc' := 23) (L' := ([some (.ref 43), some (.ref (49 + 6 * 0)), some (.int x2), some (.int x3), some (.int u0)], [])) (S' := [.int x3, .ref (49 + 6 * 0), .ref 43, .int (s 0 4), .ref (49 + 6 * 0)]) (h' := (jX f g n2 p pa s sa true rp t, z)) rfl).trans ?_
      exact jev_callb (nx := 24) (rest := [.int (s 0 4), .ref (49 + 6 * 0)]) rfl
    · rfl
  · refine (jev_blk 4 (pc' := if u0 = 1 then 17 else 34) (L' := ([some (.ref 43), some (.ref (49 + 6 * 1)), some (.int x2), some (.int x3), some (.int u0)], [])) (S' := []) (h' := (jX f g n2 p pa s sa false rp t, z)) rfl).trans (jev_ite.trans (jite_congr (fun _ => ?_) (fun _ => ?_)))
    · refine (jev_blk 6 (pc' := 23) (L' := ([some (.ref 43), some (.ref (49 + 6 * 1)), some (.int x2), some (.int x3), some (.int u0)], [])) (S' := [.int x3, .ref (49 + 6 * 1), .ref 43, .int (s 1 4), .ref (49 + 6 * 1)]) (h' := (jX f g n2 p pa s sa false rp t, z)) rfl).trans ?_
      exact jev_callb (nx := 24) (rest := [.int (s 1 4), .ref (49 + 6 * 1)]) rfl
    · rfl
  · refine (jev_blk 4 (pc' := if u0 = 1 then 17 else 34) (L' := ([some (.ref 43), some (.ref (49 + 6 * 1)), some (.int x2), some (.int x3), some (.int u0)], [])) (S' := []) (h' := (jX f g n2 p pa s sa true rp t, z)) rfl).trans (jev_ite.trans (jite_congr (fun _ => ?_) (fun _ => ?_)))
    · refine (jev_blk 6 (pc' := 23) (L' := ([some (.ref 43), some (.ref (49 + 6 * 1)), some (.int x2), some (.int x3), some (.int u0)], [])) (S' := [.int x3, .ref (49 + 6 * 1), .ref 43, .int (s 1 4), .ref (49 + 6 * 1)]) (h' := (jX f g n2 p pa s sa true rp t, z)) rfl).trans ?_
      exact jev_callb (nx := 24) (rest := [.int (s 1 4), .ref (49 + 6 * 1)]) rfl
    · rfl
  · refine (jev_blk 4 (pc' := if u0 = 1 then 17 else 34) (L' := ([some (.ref 43), some (.ref (49 + 6 * 2)), some (.int x2), some (.int x3), some (.int u0)], [])) (S' := []) (h' := (jX f g n2 p pa s sa false rp t, z)) rfl).trans (jev_ite.trans (jite_congr (fun _ => ?_) (fun _ => ?_)))
    · refine (jev_blk 6 (pc' := 23) (L' := ([some (.ref 43), some (.ref (49 + 6 * 2)), some (.int x2), some (.int x3), some (.int u0)], [])) (S' := [.int x3, .ref (49 + 6 * 2), .ref 43, .int (s 2 4), .ref (49 + 6 * 2)]) (h' := (jX f g n2 p pa s sa false rp t, z)) rfl).trans ?_
      exact jev_callb (nx := 24) (rest := [.int (s 2 4), .ref (49 + 6 * 2)]) rfl
    · rfl
  · refine (jev_blk 4 (pc' := if u0 = 1 then 17 else 34) (L' := ([some (.ref 43), some (.ref (49 + 6 * 2)), some (.int x2), some (.int x3), some (.int u0)], [])) (S' := []) (h' := (jX f g n2 p pa s sa true rp t, z)) rfl).trans (jev_ite.trans (jite_congr (fun _ => ?_) (fun _ => ?_)))
    · refine (jev_blk 6 (pc' := 23) (L' := ([some (.ref 43), some (.ref (49 + 6 * 2)), some (.int x2), some (.int x3), some (.int u0)], [])) (S' := [.int x3, .ref (49 + 6 * 2), .ref 43, .int (s 2 4), .ref (49 + 6 * 2)]) (h' := (jX f g n2 p pa s sa true rp t, z)) rfl).trans ?_
      exact jev_callb (nx := 24) (rest := [.int (s 2 4), .ref (49 + 6 * 2)]) rfl
    · rfl
set_option maxRecDepth 20000 in
theorem E_h_pass_34 {D : Nat} {j : Nat} {x2 : Int32} {x3 : Int32} {x4 : Int32} {f : Nat → Int32} {g : Nat → Nat → Int32} {n2 : Nat → Nat → Int64} {p : Nat → Nat → Int32} {pa : Nat → Nat → Nat → Int32} {s : Nat → Nat → Int32} {sa : Nat → Nat → Nat → Int32} {sw : Bool} {rp : Value} {t : List jE} {z : Nat × Nat × Nat × (Nat → Int32)} (hj : j < 3) : K_h_pass_34 D j x2 x3 x4 f g n2 p pa s sa sw rp t z = if x4 = 0 then (K_h_pass_43 D j x2 x3 (some (.int x4)) f g n2 p pa s sa sw rp t z) else (jbO (K_h_seenBy D j x3 f g n2 p pa s sa sw rp t z) (jk D 16 41 ([some (.ref 43), some (.ref (49 + 6 * j)), some (.int x2), some (.int x3), some (.int x4)], []) [.int x2])) := by
  rcases jlt3 hj with rfl | rfl | rfl <;> cases sw
  · refine (jev_blk 2 (pc' := if x4 = 0 then 43 else 36) (L' := ([some (.ref 43), some (.ref (49 + 6 * 0)), some (.int x2), some (.int x3), some (.int x4)], [])) (S' := []) (h' := (jX f g n2 p pa s sa false rp t, z)) rfl).trans (jev_ite.trans (jite_congr (fun _ => ?_) (fun _ => ?_)))
    · rfl
    · refine (jev_blk 4 (pc' := 40) (L' := ([some (.ref 43), some (.ref (49 + 6 * 0)), some (.int x2), some (.int x3), some (.int x4)], [])) (S' := [.int x3, .ref (49 + 6 * 0), .ref 43, .int x2]) (h' := (jX f g n2 p pa s sa false rp t, z)) rfl).trans ?_
      exact jev_callb (nx := 41) (rest := [.int x2]) rfl
  · refine (jev_blk 2 (pc' := if x4 = 0 then 43 else 36) (L' := ([some (.ref 43), some (.ref (49 + 6 * 0)), some (.int x2), some (.int x3), some (.int x4)], [])) (S' := []) (h' := (jX f g n2 p pa s sa true rp t, z)) rfl).trans (jev_ite.trans (jite_congr (fun _ => ?_) (fun _ => ?_)))
    · rfl
    · refine (jev_blk 4 (pc' := 40) (L' := ([some (.ref 43), some (.ref (49 + 6 * 0)), some (.int x2), some (.int x3), some (.int x4)], [])) (S' := [.int x3, .ref (49 + 6 * 0), .ref 43, .int x2]) (h' := (jX f g n2 p pa s sa true rp t, z)) rfl).trans ?_
      exact jev_callb (nx := 41) (rest := [.int x2]) rfl
  · refine (jev_blk 2 (pc' := if x4 = 0 then 43 else 36) (L' := ([some (.ref 43), some (.ref (49 + 6 * 1)), some (.int x2), some (.int x3), some (.int x4)], [])) (S' := []) (h' := (jX f g n2 p pa s sa false rp t, z)) rfl).trans (jev_ite.trans (jite_congr (fun _ => ?_) (fun _ => ?_)))
    · rfl
    · refine (jev_blk 4 (pc' := 40) (L' := ([some (.ref 43), some (.ref (49 + 6 * 1)), some (.int x2), some (.int x3), some (.int x4)], [])) (S' := [.int x3, .ref (49 + 6 * 1), .ref 43, .int x2]) (h' := (jX f g n2 p pa s sa false rp t, z)) rfl).trans ?_
      exact jev_callb (nx := 41) (rest := [.int x2]) rfl
  · refine (jev_blk 2 (pc' := if x4 = 0 then 43 else 36) (L' := ([some (.ref 43), some (.ref (49 + 6 * 1)), some (.int x2), some (.int x3), some (.int x4)], [])) (S' := []) (h' := (jX f g n2 p pa s sa true rp t, z)) rfl).trans (jev_ite.trans (jite_congr (fun _ => ?_) (fun _ => ?_)))
    · rfl
    · refine (jev_blk 4 (pc' := 40) (L' := ([some (.ref 43), some (.ref (49 + 6 * 1)), some (.int x2), some (.int x3), some (.int x4)], [])) (S' := [.int x3, .ref (49 + 6 * 1), .ref 43, .int x2]) (h' := (jX f g n2 p pa s sa true rp t, z)) rfl).trans ?_
      exact jev_callb (nx := 41) (rest := [.int x2]) rfl
  · refine (jev_blk 2 (pc' := if x4 = 0 then 43 else 36) (L' := ([some (.ref 43), some (.ref (49 + 6 * 2)), some (.int x2), some (.int x3), some (.int x4)], [])) (S' := []) (h' := (jX f g n2 p pa s sa false rp t, z)) rfl).trans (jev_ite.trans (jite_congr (fun _ => ?_) (fun _ => ?_)))
    · rfl
    · refine (jev_blk 4 (pc' := 40) (L' := ([some (.ref 43), some (.ref (49 + 6 * 2)), some (.int x2), some (.int x3), some (.int x4)], [])) (S' := [.int x3, .ref (49 + 6 * 2), .ref 43, .int x2]) (h' := (jX f g n2 p pa s sa false rp t, z)) rfl).trans ?_
      exact jev_callb (nx := 41) (rest := [.int x2]) rfl
  · refine (jev_blk 2 (pc' := if x4 = 0 then 43 else 36) (L' := ([some (.ref 43), some (.ref (49 + 6 * 2)), some (.int x2), some (.int x3), some (.int x4)], [])) (S' := []) (h' := (jX f g n2 p pa s sa true rp t, z)) rfl).trans (jev_ite.trans (jite_congr (fun _ => ?_) (fun _ => ?_)))
    · rfl
    · refine (jev_blk 4 (pc' := 40) (L' := ([some (.ref 43), some (.ref (49 + 6 * 2)), some (.int x2), some (.int x3), some (.int x4)], [])) (S' := [.int x3, .ref (49 + 6 * 2), .ref 43, .int x2]) (h' := (jX f g n2 p pa s sa true rp t, z)) rfl).trans ?_
      exact jev_callb (nx := 41) (rest := [.int x2]) rfl
set_option maxRecDepth 20000 in
theorem E_h_pass_43 {D : Nat} {j : Nat} {x2 : Int32} {x3 : Int32} {d4 : Option Value} {f : Nat → Int32} {g : Nat → Nat → Int32} {n2 : Nat → Nat → Int64} {p : Nat → Nat → Int32} {pa : Nat → Nat → Nat → Int32} {s : Nat → Nat → Int32} {sa : Nat → Nat → Nat → Int32} {sw : Bool} {rp : Value} {t : List jE} {z : Nat × Nat × Nat × (Nat → Int32)} (hj : j < 3) : K_h_pass_43 D j x2 x3 d4 f g n2 p pa s sa sw rp t z = K_h_pass_4 D j x2 (x3 + 1) d4 f g n2 p pa s sa sw rp t z := by
  rcases jlt3 hj with rfl | rfl | rfl <;> cases sw
  · exact jev_blk 2 rfl
  · exact jev_blk 2 rfl
  · exact jev_blk 2 rfl
  · exact jev_blk 2 rfl
  · exact jev_blk 2 rfl
  · exact jev_blk 2 rfl
