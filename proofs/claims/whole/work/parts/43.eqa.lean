-- EQUATIONS: one a block; E_ unfolds, L_ a loop's head
set_option maxRecDepth 20000 in
theorem E_s_ripe {D : Nat} {j : Nat}  {f : Nat → Int32} {g : Nat → Nat → Int32} {n2 : Nat → Nat → Int64} {p : Nat → Nat → Int32} {pa : Nat → Nat → Nat → Int32} {s : Nat → Nat → Int32} {sa : Nat → Nat → Nat → Int32} {sw : Bool} {rp : Value} {t : List jE} {z : Nat × Nat × Nat × (Nat → Int32)} (hj : j < 3) : K_s_ripe D j f g n2 p pa s sa sw rp t z = K_s_ripe_4 D j 0 0 f g n2 p pa s sa sw rp t z := by
  rcases jlt3 hj with rfl | rfl | rfl
  · exact jev_blk 4 rfl
  · exact jev_blk 4 rfl
  · exact jev_blk 4 rfl
set_option maxRecDepth 20000 in
theorem L_s_ripe_4 {D : Nat} {j : Nat} {x1 : Int32} {x2 : Int32} {f : Nat → Int32} {g : Nat → Nat → Int32} {n2 : Nat → Nat → Int64} {p : Nat → Nat → Int32} {pa : Nat → Nat → Nat → Int32} {s : Nat → Nat → Int32} {sa : Nat → Nat → Nat → Int32} {sw : Bool} {rp : Value} {t : List jE} {z : Nat × Nat × Nat × (Nat → Int32)} (hj : j < 3) : K_s_ripe_4 D j x1 x2 f g n2 p pa s sa sw rp t z = if x2 < 30 then (if jout x2 30 then none else (if 0 < (sa j 0 x2.toNatClampNeg) then (K_s_ripe_18 D j (x1 ||| (1 <<< (x2 &&& 31))) x2 f g n2 p pa s sa sw rp t z) else (K_s_ripe_18 D j x1 x2 f g n2 p pa s sa sw rp t z))) else (some (.inl (some (.int x1)), (jX f g n2 p pa s sa sw rp t, z))) := by
  rcases jlt3 hj with rfl | rfl | rfl
  · refine (jev_blk 3 (pc' := if x2 < 30 then 7 else 20) (L' := ([some (.ref (49 + 6 * 0)), some (.int x1), some (.int x2)], [])) (S' := []) (h' := (jX f g n2 p pa s sa sw rp t, z)) rfl).trans (jev_ite.trans (jite_congr (fun _ => ?_) (fun _ => ?_)))
    · refine (jev_blk 3 (pc' := 10) (L' := ([some (.ref (49 + 6 * 0)), some (.int x1), some (.int x2)], [])) (S' := [.int x2, .ref (50 + 6 * 0 + 0)]) (h' := (jX f g n2 p pa s sa sw rp t, z)) rfl).trans ?_
      refine (jev_grd (q := jout x2 30) (pc' := 11) (L' := ([some (.ref (49 + 6 * 0)), some (.int x1), some (.int x2)], [])) (S' := [.int (sa 0 0 x2.toNatClampNeg)]) (h' := (jX f g n2 p pa s sa sw rp t, z)) rfl).trans (jite_congr (fun _ => rfl) (fun _ => ?_))
      refine (jev_blk 1 (pc' := if 0 < (sa 0 0 x2.toNatClampNeg) then 12 else 18) (L' := ([some (.ref (49 + 6 * 0)), some (.int x1), some (.int x2)], [])) (S' := []) (h' := (jX f g n2 p pa s sa sw rp t, z)) rfl).trans (jev_ite.trans (jite_congr (fun _ => ?_) (fun _ => ?_)))
      · exact jev_blk 6 rfl
      · rfl
    · refine (jev_blk 1 (pc' := 21) (L' := ([some (.ref (49 + 6 * 0)), some (.int x1), some (.int x2)], [])) (S' := [.int x1]) (h' := (jX f g n2 p pa s sa sw rp t, z)) rfl).trans ?_
      exact jev_fin rfl
  · refine (jev_blk 3 (pc' := if x2 < 30 then 7 else 20) (L' := ([some (.ref (49 + 6 * 1)), some (.int x1), some (.int x2)], [])) (S' := []) (h' := (jX f g n2 p pa s sa sw rp t, z)) rfl).trans (jev_ite.trans (jite_congr (fun _ => ?_) (fun _ => ?_)))
    · refine (jev_blk 3 (pc' := 10) (L' := ([some (.ref (49 + 6 * 1)), some (.int x1), some (.int x2)], [])) (S' := [.int x2, .ref (50 + 6 * 1 + 0)]) (h' := (jX f g n2 p pa s sa sw rp t, z)) rfl).trans ?_
      refine (jev_grd (q := jout x2 30) (pc' := 11) (L' := ([some (.ref (49 + 6 * 1)), some (.int x1), some (.int x2)], [])) (S' := [.int (sa 1 0 x2.toNatClampNeg)]) (h' := (jX f g n2 p pa s sa sw rp t, z)) rfl).trans (jite_congr (fun _ => rfl) (fun _ => ?_))
      refine (jev_blk 1 (pc' := if 0 < (sa 1 0 x2.toNatClampNeg) then 12 else 18) (L' := ([some (.ref (49 + 6 * 1)), some (.int x1), some (.int x2)], [])) (S' := []) (h' := (jX f g n2 p pa s sa sw rp t, z)) rfl).trans (jev_ite.trans (jite_congr (fun _ => ?_) (fun _ => ?_)))
      · exact jev_blk 6 rfl
      · rfl
    · refine (jev_blk 1 (pc' := 21) (L' := ([some (.ref (49 + 6 * 1)), some (.int x1), some (.int x2)], [])) (S' := [.int x1]) (h' := (jX f g n2 p pa s sa sw rp t, z)) rfl).trans ?_
      exact jev_fin rfl
  · refine (jev_blk 3 (pc' := if x2 < 30 then 7 else 20) (L' := ([some (.ref (49 + 6 * 2)), some (.int x1), some (.int x2)], [])) (S' := []) (h' := (jX f g n2 p pa s sa sw rp t, z)) rfl).trans (jev_ite.trans (jite_congr (fun _ => ?_) (fun _ => ?_)))
    · refine (jev_blk 3 (pc' := 10) (L' := ([some (.ref (49 + 6 * 2)), some (.int x1), some (.int x2)], [])) (S' := [.int x2, .ref (50 + 6 * 2 + 0)]) (h' := (jX f g n2 p pa s sa sw rp t, z)) rfl).trans ?_
      refine (jev_grd (q := jout x2 30) (pc' := 11) (L' := ([some (.ref (49 + 6 * 2)), some (.int x1), some (.int x2)], [])) (S' := [.int (sa 2 0 x2.toNatClampNeg)]) (h' := (jX f g n2 p pa s sa sw rp t, z)) rfl).trans (jite_congr (fun _ => rfl) (fun _ => ?_))
      refine (jev_blk 1 (pc' := if 0 < (sa 2 0 x2.toNatClampNeg) then 12 else 18) (L' := ([some (.ref (49 + 6 * 2)), some (.int x1), some (.int x2)], [])) (S' := []) (h' := (jX f g n2 p pa s sa sw rp t, z)) rfl).trans (jev_ite.trans (jite_congr (fun _ => ?_) (fun _ => ?_)))
      · exact jev_blk 6 rfl
      · rfl
    · refine (jev_blk 1 (pc' := 21) (L' := ([some (.ref (49 + 6 * 2)), some (.int x1), some (.int x2)], [])) (S' := [.int x1]) (h' := (jX f g n2 p pa s sa sw rp t, z)) rfl).trans ?_
      exact jev_fin rfl
set_option maxRecDepth 20000 in
theorem E_s_ripe_18 {D : Nat} {j : Nat} {x1 : Int32} {x2 : Int32} {f : Nat → Int32} {g : Nat → Nat → Int32} {n2 : Nat → Nat → Int64} {p : Nat → Nat → Int32} {pa : Nat → Nat → Nat → Int32} {s : Nat → Nat → Int32} {sa : Nat → Nat → Nat → Int32} {sw : Bool} {rp : Value} {t : List jE} {z : Nat × Nat × Nat × (Nat → Int32)} (hj : j < 3) : K_s_ripe_18 D j x1 x2 f g n2 p pa s sa sw rp t z = K_s_ripe_4 D j x1 (x2 + 1) f g n2 p pa s sa sw rp t z := by
  rcases jlt3 hj with rfl | rfl | rfl
  · exact jev_blk 2 rfl
  · exact jev_blk 2 rfl
  · exact jev_blk 2 rfl
set_option maxRecDepth 20000 in
theorem E_s_cropOf {D : Nat} {j : Nat} {a0 : Int32} {f : Nat → Int32} {g : Nat → Nat → Int32} {n2 : Nat → Nat → Int64} {p : Nat → Nat → Int32} {pa : Nat → Nat → Nat → Int32} {s : Nat → Nat → Int32} {sa : Nat → Nat → Nat → Int32} {sw : Bool} {rp : Value} {t : List jE} {z : Nat × Nat × Nat × (Nat → Int32)} (hj : j < 3) : K_s_cropOf D j a0 f g n2 p pa s sa sw rp t z = K_s_cropOf_4 D j a0 0 0 f g n2 p pa s sa sw rp t z := by
  rcases jlt3 hj with rfl | rfl | rfl
  · exact jev_blk 4 rfl
  · exact jev_blk 4 rfl
  · exact jev_blk 4 rfl
set_option maxRecDepth 20000 in
theorem L_s_cropOf_4 {D : Nat} {j : Nat} {x1 : Int32} {x2 : Int32} {x3 : Int32} {f : Nat → Int32} {g : Nat → Nat → Int32} {n2 : Nat → Nat → Int64} {p : Nat → Nat → Int32} {pa : Nat → Nat → Nat → Int32} {s : Nat → Nat → Int32} {sa : Nat → Nat → Nat → Int32} {sw : Bool} {rp : Value} {t : List jE} {z : Nat × Nat × Nat × (Nat → Int32)} (hj : j < 3) : K_s_cropOf_4 D j x1 x2 x3 f g n2 p pa s sa sw rp t z = if x3 < 30 then (if ((x1 >>> (x3 &&& 31)) &&& 1) = 0 then (K_s_cropOf_20 D j x1 x2 x3 f g n2 p pa s sa sw rp t z) else (if jout x3 30 then none else (K_s_cropOf_20 D j x1 (x2 + (sa j 0 x3.toNatClampNeg)) x3 f g n2 p pa s sa sw rp t z))) else (some (.inl (some (.int x2)), (jX f g n2 p pa s sa sw rp t, z))) := by
  rcases jlt3 hj with rfl | rfl | rfl
  · refine (jev_blk 3 (pc' := if x3 < 30 then 7 else 22) (L' := ([some (.ref (49 + 6 * 0)), some (.int x1), some (.int x2), some (.int x3)], [])) (S' := []) (h' := (jX f g n2 p pa s sa sw rp t, z)) rfl).trans (jev_ite.trans (jite_congr (fun _ => ?_) (fun _ => ?_)))
    · refine (jev_blk 6 (pc' := if ((x1 >>> (x3 &&& 31)) &&& 1) = 0 then 20 else 13) (L' := ([some (.ref (49 + 6 * 0)), some (.int x1), some (.int x2), some (.int x3)], [])) (S' := []) (h' := (jX f g n2 p pa s sa sw rp t, z)) rfl).trans (jev_ite.trans (jite_congr (fun _ => ?_) (fun _ => ?_)))
      · rfl
      · refine (jev_blk 4 (pc' := 17) (L' := ([some (.ref (49 + 6 * 0)), some (.int x1), some (.int x2), some (.int x3)], [])) (S' := [.int x3, .ref (50 + 6 * 0 + 0), .int x2]) (h' := (jX f g n2 p pa s sa sw rp t, z)) rfl).trans ?_
        refine (jev_grd (q := jout x3 30) (pc' := 18) (L' := ([some (.ref (49 + 6 * 0)), some (.int x1), some (.int x2), some (.int x3)], [])) (S' := [.int (sa 0 0 x3.toNatClampNeg), .int x2]) (h' := (jX f g n2 p pa s sa sw rp t, z)) rfl).trans (jite_congr (fun _ => rfl) (fun _ => ?_))
        exact jev_blk 2 rfl
    · refine (jev_blk 1 (pc' := 23) (L' := ([some (.ref (49 + 6 * 0)), some (.int x1), some (.int x2), some (.int x3)], [])) (S' := [.int x2]) (h' := (jX f g n2 p pa s sa sw rp t, z)) rfl).trans ?_
      exact jev_fin rfl
  · refine (jev_blk 3 (pc' := if x3 < 30 then 7 else 22) (L' := ([some (.ref (49 + 6 * 1)), some (.int x1), some (.int x2), some (.int x3)], [])) (S' := []) (h' := (jX f g n2 p pa s sa sw rp t, z)) rfl).trans (jev_ite.trans (jite_congr (fun _ => ?_) (fun _ => ?_)))
    · refine (jev_blk 6 (pc' := if ((x1 >>> (x3 &&& 31)) &&& 1) = 0 then 20 else 13) (L' := ([some (.ref (49 + 6 * 1)), some (.int x1), some (.int x2), some (.int x3)], [])) (S' := []) (h' := (jX f g n2 p pa s sa sw rp t, z)) rfl).trans (jev_ite.trans (jite_congr (fun _ => ?_) (fun _ => ?_)))
      · rfl
      · refine (jev_blk 4 (pc' := 17) (L' := ([some (.ref (49 + 6 * 1)), some (.int x1), some (.int x2), some (.int x3)], [])) (S' := [.int x3, .ref (50 + 6 * 1 + 0), .int x2]) (h' := (jX f g n2 p pa s sa sw rp t, z)) rfl).trans ?_
        refine (jev_grd (q := jout x3 30) (pc' := 18) (L' := ([some (.ref (49 + 6 * 1)), some (.int x1), some (.int x2), some (.int x3)], [])) (S' := [.int (sa 1 0 x3.toNatClampNeg), .int x2]) (h' := (jX f g n2 p pa s sa sw rp t, z)) rfl).trans (jite_congr (fun _ => rfl) (fun _ => ?_))
        exact jev_blk 2 rfl
    · refine (jev_blk 1 (pc' := 23) (L' := ([some (.ref (49 + 6 * 1)), some (.int x1), some (.int x2), some (.int x3)], [])) (S' := [.int x2]) (h' := (jX f g n2 p pa s sa sw rp t, z)) rfl).trans ?_
      exact jev_fin rfl
  · refine (jev_blk 3 (pc' := if x3 < 30 then 7 else 22) (L' := ([some (.ref (49 + 6 * 2)), some (.int x1), some (.int x2), some (.int x3)], [])) (S' := []) (h' := (jX f g n2 p pa s sa sw rp t, z)) rfl).trans (jev_ite.trans (jite_congr (fun _ => ?_) (fun _ => ?_)))
    · refine (jev_blk 6 (pc' := if ((x1 >>> (x3 &&& 31)) &&& 1) = 0 then 20 else 13) (L' := ([some (.ref (49 + 6 * 2)), some (.int x1), some (.int x2), some (.int x3)], [])) (S' := []) (h' := (jX f g n2 p pa s sa sw rp t, z)) rfl).trans (jev_ite.trans (jite_congr (fun _ => ?_) (fun _ => ?_)))
      · rfl
      · refine (jev_blk 4 (pc' := 17) (L' := ([some (.ref (49 + 6 * 2)), some (.int x1), some (.int x2), some (.int x3)], [])) (S' := [.int x3, .ref (50 + 6 * 2 + 0), .int x2]) (h' := (jX f g n2 p pa s sa sw rp t, z)) rfl).trans ?_
        refine (jev_grd (q := jout x3 30) (pc' := 18) (L' := ([some (.ref (49 + 6 * 2)), some (.int x1), some (.int x2), some (.int x3)], [])) (S' := [.int (sa 2 0 x3.toNatClampNeg), .int x2]) (h' := (jX f g n2 p pa s sa sw rp t, z)) rfl).trans (jite_congr (fun _ => rfl) (fun _ => ?_))
        exact jev_blk 2 rfl
    · refine (jev_blk 1 (pc' := 23) (L' := ([some (.ref (49 + 6 * 2)), some (.int x1), some (.int x2), some (.int x3)], [])) (S' := [.int x2]) (h' := (jX f g n2 p pa s sa sw rp t, z)) rfl).trans ?_
      exact jev_fin rfl
set_option maxRecDepth 20000 in
theorem E_s_cropOf_20 {D : Nat} {j : Nat} {x1 : Int32} {x2 : Int32} {x3 : Int32} {f : Nat → Int32} {g : Nat → Nat → Int32} {n2 : Nat → Nat → Int64} {p : Nat → Nat → Int32} {pa : Nat → Nat → Nat → Int32} {s : Nat → Nat → Int32} {sa : Nat → Nat → Nat → Int32} {sw : Bool} {rp : Value} {t : List jE} {z : Nat × Nat × Nat × (Nat → Int32)} (hj : j < 3) : K_s_cropOf_20 D j x1 x2 x3 f g n2 p pa s sa sw rp t z = K_s_cropOf_4 D j x1 x2 (x3 + 1) f g n2 p pa s sa sw rp t z := by
  rcases jlt3 hj with rfl | rfl | rfl
  · exact jev_blk 2 rfl
  · exact jev_blk 2 rfl
  · exact jev_blk 2 rfl
set_option maxRecDepth 20000 in
theorem E_s_onRota {D : Nat} {j : Nat} {a0 : Int32} {f : Nat → Int32} {g : Nat → Nat → Int32} {n2 : Nat → Nat → Int64} {p : Nat → Nat → Int32} {pa : Nat → Nat → Nat → Int32} {s : Nat → Nat → Int32} {sa : Nat → Nat → Nat → Int32} {sw : Bool} {rp : Value} {t : List jE} {z : Nat × Nat × Nat × (Nat → Int32)} (hj : j < 3) : K_s_onRota D j a0 f g n2 p pa s sa sw rp t z = if jout a0 6 then none else (if (((sa j 2 a0.toNatClampNeg) >>> ((s j 1) &&& 31)) &&& 1) = 0 then (some (.inl (some (.int 0)), (jX f g n2 p pa s sa sw rp t, z))) else (some (.inl (some (.int 1)), (jX f g n2 p pa s sa sw rp t, z)))) := by
  rcases jlt3 hj with rfl | rfl | rfl
  · refine (jev_blk 3 (pc' := 3) (L' := ([some (.ref (49 + 6 * 0)), some (.int a0)], [])) (S' := [.int a0, .ref (50 + 6 * 0 + 2)]) (h' := (jX f g n2 p pa s sa sw rp t, z)) rfl).trans ?_
    refine (jev_grd (q := jout a0 6) (pc' := 4) (L' := ([some (.ref (49 + 6 * 0)), some (.int a0)], [])) (S' := [.int (sa 0 2 a0.toNatClampNeg)]) (h' := (jX f g n2 p pa s sa sw rp t, z)) rfl).trans (jite_congr (fun _ => rfl) (fun _ => ?_))
    refine (jev_blk 6 (pc' := if (((sa 0 2 a0.toNatClampNeg) >>> ((s 0 1) &&& 31)) &&& 1) = 0 then 12 else 10) (L' := ([some (.ref (49 + 6 * 0)), some (.int a0)], [])) (S' := []) (h' := (jX f g n2 p pa s sa sw rp t, z)) rfl).trans (jev_ite.trans (jite_congr (fun _ => ?_) (fun _ => ?_)))
    · refine (jev_blk 1 (pc' := 13) (L' := ([some (.ref (49 + 6 * 0)), some (.int a0)], [])) (S' := [.int 0]) (h' := (jX f g n2 p pa s sa sw rp t, z)) rfl).trans ?_
      exact jev_fin rfl
    · refine (jev_blk 2 (pc' := 13) (L' := ([some (.ref (49 + 6 * 0)), some (.int a0)], [])) (S' := [.int 1]) (h' := (jX f g n2 p pa s sa sw rp t, z)) rfl).trans ?_
      exact jev_fin rfl
  · refine (jev_blk 3 (pc' := 3) (L' := ([some (.ref (49 + 6 * 1)), some (.int a0)], [])) (S' := [.int a0, .ref (50 + 6 * 1 + 2)]) (h' := (jX f g n2 p pa s sa sw rp t, z)) rfl).trans ?_
    refine (jev_grd (q := jout a0 6) (pc' := 4) (L' := ([some (.ref (49 + 6 * 1)), some (.int a0)], [])) (S' := [.int (sa 1 2 a0.toNatClampNeg)]) (h' := (jX f g n2 p pa s sa sw rp t, z)) rfl).trans (jite_congr (fun _ => rfl) (fun _ => ?_))
    refine (jev_blk 6 (pc' := if (((sa 1 2 a0.toNatClampNeg) >>> ((s 1 1) &&& 31)) &&& 1) = 0 then 12 else 10) (L' := ([some (.ref (49 + 6 * 1)), some (.int a0)], [])) (S' := []) (h' := (jX f g n2 p pa s sa sw rp t, z)) rfl).trans (jev_ite.trans (jite_congr (fun _ => ?_) (fun _ => ?_)))
    · refine (jev_blk 1 (pc' := 13) (L' := ([some (.ref (49 + 6 * 1)), some (.int a0)], [])) (S' := [.int 0]) (h' := (jX f g n2 p pa s sa sw rp t, z)) rfl).trans ?_
      exact jev_fin rfl
    · refine (jev_blk 2 (pc' := 13) (L' := ([some (.ref (49 + 6 * 1)), some (.int a0)], [])) (S' := [.int 1]) (h' := (jX f g n2 p pa s sa sw rp t, z)) rfl).trans ?_
      exact jev_fin rfl
  · refine (jev_blk 3 (pc' := 3) (L' := ([some (.ref (49 + 6 * 2)), some (.int a0)], [])) (S' := [.int a0, .ref (50 + 6 * 2 + 2)]) (h' := (jX f g n2 p pa s sa sw rp t, z)) rfl).trans ?_
    refine (jev_grd (q := jout a0 6) (pc' := 4) (L' := ([some (.ref (49 + 6 * 2)), some (.int a0)], [])) (S' := [.int (sa 2 2 a0.toNatClampNeg)]) (h' := (jX f g n2 p pa s sa sw rp t, z)) rfl).trans (jite_congr (fun _ => rfl) (fun _ => ?_))
    refine (jev_blk 6 (pc' := if (((sa 2 2 a0.toNatClampNeg) >>> ((s 2 1) &&& 31)) &&& 1) = 0 then 12 else 10) (L' := ([some (.ref (49 + 6 * 2)), some (.int a0)], [])) (S' := []) (h' := (jX f g n2 p pa s sa sw rp t, z)) rfl).trans (jev_ite.trans (jite_congr (fun _ => ?_) (fun _ => ?_)))
    · refine (jev_blk 1 (pc' := 13) (L' := ([some (.ref (49 + 6 * 2)), some (.int a0)], [])) (S' := [.int 0]) (h' := (jX f g n2 p pa s sa sw rp t, z)) rfl).trans ?_
      exact jev_fin rfl
    · refine (jev_blk 2 (pc' := 13) (L' := ([some (.ref (49 + 6 * 2)), some (.int a0)], [])) (S' := [.int 1]) (h' := (jX f g n2 p pa s sa sw rp t, z)) rfl).trans ?_
      exact jev_fin rfl
set_option maxRecDepth 20000 in
theorem E_s_onStrike {D : Nat} {j : Nat} {a0 : Int32} {f : Nat → Int32} {g : Nat → Nat → Int32} {n2 : Nat → Nat → Int64} {p : Nat → Nat → Int32} {pa : Nat → Nat → Nat → Int32} {s : Nat → Nat → Int32} {sa : Nat → Nat → Nat → Int32} {sw : Bool} {rp : Value} {t : List jE} {z : Nat × Nat × Nat × (Nat → Int32)} (hj : j < 3) : K_s_onStrike D j a0 f g n2 p pa s sa sw rp t z = if (((s j 2) >>> (a0 &&& 31)) &&& 1) = 0 then (some (.inl (some (.int 0)), (jX f g n2 p pa s sa sw rp t, z))) else (some (.inl (some (.int 1)), (jX f g n2 p pa s sa sw rp t, z))) := by
  rcases jlt3 hj with rfl | rfl | rfl
  · refine (jev_blk 7 (pc' := if (((s 0 2) >>> (a0 &&& 31)) &&& 1) = 0 then 9 else 7) (L' := ([some (.ref (49 + 6 * 0)), some (.int a0)], [])) (S' := []) (h' := (jX f g n2 p pa s sa sw rp t, z)) rfl).trans (jev_ite.trans (jite_congr (fun _ => ?_) (fun _ => ?_)))
    · refine (jev_blk 1 (pc' := 10) (L' := ([some (.ref (49 + 6 * 0)), some (.int a0)], [])) (S' := [.int 0]) (h' := (jX f g n2 p pa s sa sw rp t, z)) rfl).trans ?_
      exact jev_fin rfl
    · refine (jev_blk 2 (pc' := 10) (L' := ([some (.ref (49 + 6 * 0)), some (.int a0)], [])) (S' := [.int 1]) (h' := (jX f g n2 p pa s sa sw rp t, z)) rfl).trans ?_
      exact jev_fin rfl
  · refine (jev_blk 7 (pc' := if (((s 1 2) >>> (a0 &&& 31)) &&& 1) = 0 then 9 else 7) (L' := ([some (.ref (49 + 6 * 1)), some (.int a0)], [])) (S' := []) (h' := (jX f g n2 p pa s sa sw rp t, z)) rfl).trans (jev_ite.trans (jite_congr (fun _ => ?_) (fun _ => ?_)))
    · refine (jev_blk 1 (pc' := 10) (L' := ([some (.ref (49 + 6 * 1)), some (.int a0)], [])) (S' := [.int 0]) (h' := (jX f g n2 p pa s sa sw rp t, z)) rfl).trans ?_
      exact jev_fin rfl
    · refine (jev_blk 2 (pc' := 10) (L' := ([some (.ref (49 + 6 * 1)), some (.int a0)], [])) (S' := [.int 1]) (h' := (jX f g n2 p pa s sa sw rp t, z)) rfl).trans ?_
      exact jev_fin rfl
  · refine (jev_blk 7 (pc' := if (((s 2 2) >>> (a0 &&& 31)) &&& 1) = 0 then 9 else 7) (L' := ([some (.ref (49 + 6 * 2)), some (.int a0)], [])) (S' := []) (h' := (jX f g n2 p pa s sa sw rp t, z)) rfl).trans (jev_ite.trans (jite_congr (fun _ => ?_) (fun _ => ?_)))
    · refine (jev_blk 1 (pc' := 10) (L' := ([some (.ref (49 + 6 * 2)), some (.int a0)], [])) (S' := [.int 0]) (h' := (jX f g n2 p pa s sa sw rp t, z)) rfl).trans ?_
      exact jev_fin rfl
    · refine (jev_blk 2 (pc' := 10) (L' := ([some (.ref (49 + 6 * 2)), some (.int a0)], [])) (S' := [.int 1]) (h' := (jX f g n2 p pa s sa sw rp t, z)) rfl).trans ?_
      exact jev_fin rfl
set_option maxRecDepth 20000 in
theorem E_s_tick {D : Nat} {j : Nat}  {f : Nat → Int32} {g : Nat → Nat → Int32} {n2 : Nat → Nat → Int64} {p : Nat → Nat → Int32} {pa : Nat → Nat → Nat → Int32} {s : Nat → Nat → Int32} {sa : Nat → Nat → Nat → Int32} {sw : Bool} {rp : Value} {t : List jE} {z : Nat × Nat × Nat × (Nat → Int32)} (hj : j < 3) : K_s_tick D j f g n2 p pa s sa sw rp t z = if ((s j 1) + 1) < 12 then (some (.inl (none), (jX f g n2 p pa (jup s j (jup (s j) 1 (((s j 1) + 1)))) sa sw rp t, z))) else (jbO (K_j_fill_s4 D j 0 f g n2 p pa (jup s j (jup (jup (s j) 0 (((s j 0) + 1))) 1 (0))) sa sw rp t z) (jk D 81 23 ([some (.ref (49 + 6 * j))], []) [])) := by
  rcases jlt3 hj with rfl | rfl | rfl
  · refine (jev_blk 10 (pc' := if ((s 0 1) + 1) < 12 then 23 else 10) (L' := ([some (.ref (49 + 6 * 0))], [])) (S' := []) (h' := (jX f g n2 p pa (jup s 0 (jup (s 0) 1 (((s 0 1) + 1)))) sa sw rp t, z)) rfl).trans (jev_ite.trans (jite_congr (fun _ => ?_) (fun _ => ?_)))
    · exact jev_fin rfl
    · refine (jev_blk 12 (pc' := 22) (L' := ([some (.ref (49 + 6 * 0))], [])) (S' := [.int 0, .ref (50 + 6 * 0 + 4)]) (h' := (jX f g n2 p pa (jup s 0 (jup (jup (s 0) 0 (((s 0 0) + 1))) 1 (0))) sa sw rp t, z)) rfl).trans ?_
      exact jev_callb (nx := 23) (rest := []) rfl
  · refine (jev_blk 10 (pc' := if ((s 1 1) + 1) < 12 then 23 else 10) (L' := ([some (.ref (49 + 6 * 1))], [])) (S' := []) (h' := (jX f g n2 p pa (jup s 1 (jup (s 1) 1 (((s 1 1) + 1)))) sa sw rp t, z)) rfl).trans (jev_ite.trans (jite_congr (fun _ => ?_) (fun _ => ?_)))
    · exact jev_fin rfl
    · refine (jev_blk 12 (pc' := 22) (L' := ([some (.ref (49 + 6 * 1))], [])) (S' := [.int 0, .ref (50 + 6 * 1 + 4)]) (h' := (jX f g n2 p pa (jup s 1 (jup (jup (s 1) 0 (((s 1 0) + 1))) 1 (0))) sa sw rp t, z)) rfl).trans ?_
      exact jev_callb (nx := 23) (rest := []) rfl
  · refine (jev_blk 10 (pc' := if ((s 2 1) + 1) < 12 then 23 else 10) (L' := ([some (.ref (49 + 6 * 2))], [])) (S' := []) (h' := (jX f g n2 p pa (jup s 2 (jup (s 2) 1 (((s 2 1) + 1)))) sa sw rp t, z)) rfl).trans (jev_ite.trans (jite_congr (fun _ => ?_) (fun _ => ?_)))
    · exact jev_fin rfl
    · refine (jev_blk 12 (pc' := 22) (L' := ([some (.ref (49 + 6 * 2))], [])) (S' := [.int 0, .ref (50 + 6 * 2 + 4)]) (h' := (jX f g n2 p pa (jup s 2 (jup (jup (s 2) 0 (((s 2 0) + 1))) 1 (0))) sa sw rp t, z)) rfl).trans ?_
      exact jev_callb (nx := 23) (rest := []) rfl
set_option maxRecDepth 20000 in
theorem E_s_tick_23 {D : Nat} {j : Nat}  {f : Nat → Int32} {g : Nat → Nat → Int32} {n2 : Nat → Nat → Int64} {p : Nat → Nat → Int32} {pa : Nat → Nat → Nat → Int32} {s : Nat → Nat → Int32} {sa : Nat → Nat → Nat → Int32} {sw : Bool} {rp : Value} {t : List jE} {z : Nat × Nat × Nat × (Nat → Int32)} (hj : j < 3) : jev D 81 23 ([some (.ref (49 + 6 * j))], []) [] (jX f g n2 p pa s sa sw rp t, z) = some (.inl (none), (jX f g n2 p pa s sa sw rp t, z)) := by
  rcases jlt3 hj with rfl | rfl | rfl
  · exact jev_fin rfl
  · exact jev_fin rfl
  · exact jev_fin rfl
set_option maxRecDepth 20000 in
theorem E_s_begin {D : Nat} {j : Nat} {w : Bool}  {f : Nat → Int32} {g : Nat → Nat → Int32} {n2 : Nat → Nat → Int64} {p : Nat → Nat → Int32} {pa : Nat → Nat → Nat → Int32} {s : Nat → Nat → Int32} {sa : Nat → Nat → Nat → Int32} {sw : Bool} {rp : Value} {t : List jE} {z : Nat × Nat × Nat × (Nat → Int32)} (hj : j < 3) : K_s_begin D j w f g n2 p pa s sa sw rp t z = K_s_begin_8 D j w 0 f g n2 p pa (jup s j (jup (jup (s j) 0 (0)) 1 (0))) sa sw rp t z := by
  rcases jlt3 hj with rfl | rfl | rfl <;> cases w
  · exact jev_blk 8 rfl
  · exact jev_blk 8 rfl
  · exact jev_blk 8 rfl
  · exact jev_blk 8 rfl
  · exact jev_blk 8 rfl
  · exact jev_blk 8 rfl
set_option maxRecDepth 20000 in
theorem L_s_begin_8 {D : Nat} {j : Nat} {w : Bool} {x2 : Int32} {f : Nat → Int32} {g : Nat → Nat → Int32} {n2 : Nat → Nat → Int64} {p : Nat → Nat → Int32} {pa : Nat → Nat → Nat → Int32} {s : Nat → Nat → Int32} {sa : Nat → Nat → Nat → Int32} {sw : Bool} {rp : Value} {t : List jE} {z : Nat × Nat × Nat × (Nat → Int32)} (hj : j < 3) : K_s_begin_8 D j w x2 f g n2 p pa s sa sw rp t z = if x2 < 30 then (jbO (K_p_hasCell D w x2 f g n2 p pa s sa sw rp t z) (jk D 74 17 ([some (.ref (49 + 6 * j)), some (.ref (jpl w)), some (.int x2)], []) [.int x2, .ref (50 + 6 * j + 0)])) else (jbO (K_j_fill_s1 D j 0 f g n2 p pa s (jup sa j (jup (jup (sa j) 2 ((jcpy (pa (jq w) 6) (sa j 2) 0 0 6))) 3 ((jcpy (pa (jq w) 5) (sa j 3) 0 0 6)))) sw rp t z) (jk D 74 47 ([some (.ref (49 + 6 * j)), some (.ref (jpl w)), some (.int x2)], []) [])) := by
  rcases jlt3 hj with rfl | rfl | rfl <;> cases w
  · refine (jev_blk 3 (pc' := if x2 < 30 then 11 else 27) (L' := ([some (.ref (49 + 6 * 0)), some (.ref (jpl false)), some (.int x2)], [])) (S' := []) (h' := (jX f g n2 p pa s sa sw rp t, z)) rfl).trans (jev_ite.trans (jite_congr (fun _ => ?_) (fun _ => ?_)))
    · refine (jev_blk 5 (pc' := 16) (L' := ([some (.ref (49 + 6 * 0)), some (.ref (jpl false)), some (.int x2)], [])) (S' := [.int x2, .ref (jpl false), .int x2, .ref (50 + 6 * 0 + 0)]) (h' := (jX f g n2 p pa s sa sw rp t, z)) rfl).trans ?_
      exact jev_callb (nx := 17) (rest := [.int x2, .ref (50 + 6 * 0 + 0)]) rfl
    · refine (jev_blk 7 (pc' := 34) (L' := ([some (.ref (49 + 6 * 0)), some (.ref (jpl false)), some (.int x2)], [])) (S' := [.int 6, .int 0, .ref (50 + 6 * 0 + 2), .int 0, .ref ((jpl false) + 7)]) (h' := (jX f g n2 p pa s sa sw rp t, z)) rfl).trans ?_
      refine (jev_prim (a := 1) (As := [.ref ((jpl false) + 7), .int 0, .ref (50 + 6 * 0 + 2), .int 0, .int 6]) (nx := 35) (rest := []) rfl (r := none) (h' := (jX f g n2 p pa s (jup sa 0 (jup (sa 0) 2 ((jcpy (pa (jq false) 6) (sa 0 2) 0 0 6)))) sw rp t, z)) rfl).trans ?_
      refine (jev_blk 7 (pc' := 42) (L' := ([some (.ref (49 + 6 * 0)), some (.ref (jpl false)), some (.int x2)], [])) (S' := [.int 6, .int 0, .ref (50 + 6 * 0 + 3), .int 0, .ref ((jpl false) + 6)]) (h' := (jX f g n2 p pa s (jup sa 0 (jup (sa 0) 2 ((jcpy (pa (jq false) 6) (sa 0 2) 0 0 6)))) sw rp t, z)) rfl).trans ?_
      refine (jev_prim (a := 1) (As := [.ref ((jpl false) + 6), .int 0, .ref (50 + 6 * 0 + 3), .int 0, .int 6]) (nx := 43) (rest := []) rfl (r := none) (h' := (jX f g n2 p pa s (jup sa 0 (jup (jup (sa 0) 2 ((jcpy (pa (jq false) 6) (sa 0 2) 0 0 6))) 3 ((jcpy (pa (jq false) 5) (sa 0 3) 0 0 6)))) sw rp t, z)) rfl).trans ?_
      refine (jev_blk 3 (pc' := 46) (L' := ([some (.ref (49 + 6 * 0)), some (.ref (jpl false)), some (.int x2)], [])) (S' := [.int 0, .ref (50 + 6 * 0 + 1)]) (h' := (jX f g n2 p pa s (jup sa 0 (jup (jup (sa 0) 2 ((jcpy (pa (jq false) 6) (sa 0 2) 0 0 6))) 3 ((jcpy (pa (jq false) 5) (sa 0 3) 0 0 6)))) sw rp t, z)) rfl).trans ?_
      exact jev_callb (nx := 47) (rest := []) rfl
  · refine (jev_blk 3 (pc' := if x2 < 30 then 11 else 27) (L' := ([some (.ref (49 + 6 * 0)), some (.ref (jpl true)), some (.int x2)], [])) (S' := []) (h' := (jX f g n2 p pa s sa sw rp t, z)) rfl).trans (jev_ite.trans (jite_congr (fun _ => ?_) (fun _ => ?_)))
    · refine (jev_blk 5 (pc' := 16) (L' := ([some (.ref (49 + 6 * 0)), some (.ref (jpl true)), some (.int x2)], [])) (S' := [.int x2, .ref (jpl true), .int x2, .ref (50 + 6 * 0 + 0)]) (h' := (jX f g n2 p pa s sa sw rp t, z)) rfl).trans ?_
      exact jev_callb (nx := 17) (rest := [.int x2, .ref (50 + 6 * 0 + 0)]) rfl
    · refine (jev_blk 7 (pc' := 34) (L' := ([some (.ref (49 + 6 * 0)), some (.ref (jpl true)), some (.int x2)], [])) (S' := [.int 6, .int 0, .ref (50 + 6 * 0 + 2), .int 0, .ref ((jpl true) + 7)]) (h' := (jX f g n2 p pa s sa sw rp t, z)) rfl).trans ?_
      refine (jev_prim (a := 1) (As := [.ref ((jpl true) + 7), .int 0, .ref (50 + 6 * 0 + 2), .int 0, .int 6]) (nx := 35) (rest := []) rfl (r := none) (h' := (jX f g n2 p pa s (jup sa 0 (jup (sa 0) 2 ((jcpy (pa (jq true) 6) (sa 0 2) 0 0 6)))) sw rp t, z)) rfl).trans ?_
      refine (jev_blk 7 (pc' := 42) (L' := ([some (.ref (49 + 6 * 0)), some (.ref (jpl true)), some (.int x2)], [])) (S' := [.int 6, .int 0, .ref (50 + 6 * 0 + 3), .int 0, .ref ((jpl true) + 6)]) (h' := (jX f g n2 p pa s (jup sa 0 (jup (sa 0) 2 ((jcpy (pa (jq true) 6) (sa 0 2) 0 0 6)))) sw rp t, z)) rfl).trans ?_
      refine (jev_prim (a := 1) (As := [.ref ((jpl true) + 6), .int 0, .ref (50 + 6 * 0 + 3), .int 0, .int 6]) (nx := 43) (rest := []) rfl (r := none) (h' := (jX f g n2 p pa s (jup sa 0 (jup (jup (sa 0) 2 ((jcpy (pa (jq true) 6) (sa 0 2) 0 0 6))) 3 ((jcpy (pa (jq true) 5) (sa 0 3) 0 0 6)))) sw rp t, z)) rfl).trans ?_
      refine (jev_blk 3 (pc' := 46) (L' := ([some (.ref (49 + 6 * 0)), some (.ref (jpl true)), some (.int x2)], [])) (S' := [.int 0, .ref (50 + 6 * 0 + 1)]) (h' := (jX f g n2 p pa s (jup sa 0 (jup (jup (sa 0) 2 ((jcpy (pa (jq true) 6) (sa 0 2) 0 0 6))) 3 ((jcpy (pa (jq true) 5) (sa 0 3) 0 0 6)))) sw rp t, z)) rfl).trans ?_
      exact jev_callb (nx := 47) (rest := []) rfl
  · refine (jev_blk 3 (pc' := if x2 < 30 then 11 else 27) (L' := ([some (.ref (49 + 6 * 1)), some (.ref (jpl false)), some (.int x2)], [])) (S' := []) (h' := (jX f g n2 p pa s sa sw rp t, z)) rfl).trans (jev_ite.trans (jite_congr (fun _ => ?_) (fun _ => ?_)))
    · refine (jev_blk 5 (pc' := 16) (L' := ([some (.ref (49 + 6 * 1)), some (.ref (jpl false)), some (.int x2)], [])) (S' := [.int x2, .ref (jpl false), .int x2, .ref (50 + 6 * 1 + 0)]) (h' := (jX f g n2 p pa s sa sw rp t, z)) rfl).trans ?_
      exact jev_callb (nx := 17) (rest := [.int x2, .ref (50 + 6 * 1 + 0)]) rfl
    · refine (jev_blk 7 (pc' := 34) (L' := ([some (.ref (49 + 6 * 1)), some (.ref (jpl false)), some (.int x2)], [])) (S' := [.int 6, .int 0, .ref (50 + 6 * 1 + 2), .int 0, .ref ((jpl false) + 7)]) (h' := (jX f g n2 p pa s sa sw rp t, z)) rfl).trans ?_
      refine (jev_prim (a := 1) (As := [.ref ((jpl false) + 7), .int 0, .ref (50 + 6 * 1 + 2), .int 0, .int 6]) (nx := 35) (rest := []) rfl (r := none) (h' := (jX f g n2 p pa s (jup sa 1 (jup (sa 1) 2 ((jcpy (pa (jq false) 6) (sa 1 2) 0 0 6)))) sw rp t, z)) rfl).trans ?_
      refine (jev_blk 7 (pc' := 42) (L' := ([some (.ref (49 + 6 * 1)), some (.ref (jpl false)), some (.int x2)], [])) (S' := [.int 6, .int 0, .ref (50 + 6 * 1 + 3), .int 0, .ref ((jpl false) + 6)]) (h' := (jX f g n2 p pa s (jup sa 1 (jup (sa 1) 2 ((jcpy (pa (jq false) 6) (sa 1 2) 0 0 6)))) sw rp t, z)) rfl).trans ?_
      refine (jev_prim (a := 1) (As := [.ref ((jpl false) + 6), .int 0, .ref (50 + 6 * 1 + 3), .int 0, .int 6]) (nx := 43) (rest := []) rfl (r := none) (h' := (jX f g n2 p pa s (jup sa 1 (jup (jup (sa 1) 2 ((jcpy (pa (jq false) 6) (sa 1 2) 0 0 6))) 3 ((jcpy (pa (jq false) 5) (sa 1 3) 0 0 6)))) sw rp t, z)) rfl).trans ?_
      refine (jev_blk 3 (pc' := 46) (L' := ([some (.ref (49 + 6 * 1)), some (.ref (jpl false)), some (.int x2)], [])) (S' := [.int 0, .ref (50 + 6 * 1 + 1)]) (h' := (jX f g n2 p pa s (jup sa 1 (jup (jup (sa 1) 2 ((jcpy (pa (jq false) 6) (sa 1 2) 0 0 6))) 3 ((jcpy (pa (jq false) 5) (sa 1 3) 0 0 6)))) sw rp t, z)) rfl).trans ?_
      exact jev_callb (nx := 47) (rest := []) rfl
  · refine (jev_blk 3 (pc' := if x2 < 30 then 11 else 27) (L' := ([some (.ref (49 + 6 * 1)), some (.ref (jpl true)), some (.int x2)], [])) (S' := []) (h' := (jX f g n2 p pa s sa sw rp t, z)) rfl).trans (jev_ite.trans (jite_congr (fun _ => ?_) (fun _ => ?_)))
    · refine (jev_blk 5 (pc' := 16) (L' := ([some (.ref (49 + 6 * 1)), some (.ref (jpl true)), some (.int x2)], [])) (S' := [.int x2, .ref (jpl true), .int x2, .ref (50 + 6 * 1 + 0)]) (h' := (jX f g n2 p pa s sa sw rp t, z)) rfl).trans ?_
      exact jev_callb (nx := 17) (rest := [.int x2, .ref (50 + 6 * 1 + 0)]) rfl
    · refine (jev_blk 7 (pc' := 34) (L' := ([some (.ref (49 + 6 * 1)), some (.ref (jpl true)), some (.int x2)], [])) (S' := [.int 6, .int 0, .ref (50 + 6 * 1 + 2), .int 0, .ref ((jpl true) + 7)]) (h' := (jX f g n2 p pa s sa sw rp t, z)) rfl).trans ?_
      refine (jev_prim (a := 1) (As := [.ref ((jpl true) + 7), .int 0, .ref (50 + 6 * 1 + 2), .int 0, .int 6]) (nx := 35) (rest := []) rfl (r := none) (h' := (jX f g n2 p pa s (jup sa 1 (jup (sa 1) 2 ((jcpy (pa (jq true) 6) (sa 1 2) 0 0 6)))) sw rp t, z)) rfl).trans ?_
      refine (jev_blk 7 (pc' := 42) (L' := ([some (.ref (49 + 6 * 1)), some (.ref (jpl true)), some (.int x2)], [])) (S' := [.int 6, .int 0, .ref (50 + 6 * 1 + 3), .int 0, .ref ((jpl true) + 6)]) (h' := (jX f g n2 p pa s (jup sa 1 (jup (sa 1) 2 ((jcpy (pa (jq true) 6) (sa 1 2) 0 0 6)))) sw rp t, z)) rfl).trans ?_
      refine (jev_prim (a := 1) (As := [.ref ((jpl true) + 6), .int 0, .ref (50 + 6 * 1 + 3), .int 0, .int 6]) (nx := 43) (rest := []) rfl (r := none) (h' := (jX f g n2 p pa s (jup sa 1 (jup (jup (sa 1) 2 ((jcpy (pa (jq true) 6) (sa 1 2) 0 0 6))) 3 ((jcpy (pa (jq true) 5) (sa 1 3) 0 0 6)))) sw rp t, z)) rfl).trans ?_
      refine (jev_blk 3 (pc' := 46) (L' := ([some (.ref (49 + 6 * 1)), some (.ref (jpl true)), some (.int x2)], [])) (S' := [.int 0, .ref (50 + 6 * 1 + 1)]) (h' := (jX f g n2 p pa s (jup sa 1 (jup (jup (sa 1) 2 ((jcpy (pa (jq true) 6) (sa 1 2) 0 0 6))) 3 ((jcpy (pa (jq true) 5) (sa 1 3) 0 0 6)))) sw rp t, z)) rfl).trans ?_
      exact jev_callb (nx := 47) (rest := []) rfl
  · refine (jev_blk 3 (pc' := if x2 < 30 then 11 else 27) (L' := ([some (.ref (49 + 6 * 2)), some (.ref (jpl false)), some (.int x2)], [])) (S' := []) (h' := (jX f g n2 p pa s sa sw rp t, z)) rfl).trans (jev_ite.trans (jite_congr (fun _ => ?_) (fun _ => ?_)))
    · refine (jev_blk 5 (pc' := 16) (L' := ([some (.ref (49 + 6 * 2)), some (.ref (jpl false)), some (.int x2)], [])) (S' := [.int x2, .ref (jpl false), .int x2, .ref (50 + 6 * 2 + 0)]) (h' := (jX f g n2 p pa s sa sw rp t, z)) rfl).trans ?_
      exact jev_callb (nx := 17) (rest := [.int x2, .ref (50 + 6 * 2 + 0)]) rfl
    · refine (jev_blk 7 (pc' := 34) (L' := ([some (.ref (49 + 6 * 2)), some (.ref (jpl false)), some (.int x2)], [])) (S' := [.int 6, .int 0, .ref (50 + 6 * 2 + 2), .int 0, .ref ((jpl false) + 7)]) (h' := (jX f g n2 p pa s sa sw rp t, z)) rfl).trans ?_
      refine (jev_prim (a := 1) (As := [.ref ((jpl false) + 7), .int 0, .ref (50 + 6 * 2 + 2), .int 0, .int 6]) (nx := 35) (rest := []) rfl (r := none) (h' := (jX f g n2 p pa s (jup sa 2 (jup (sa 2) 2 ((jcpy (pa (jq false) 6) (sa 2 2) 0 0 6)))) sw rp t, z)) rfl).trans ?_
      refine (jev_blk 7 (pc' := 42) (L' := ([some (.ref (49 + 6 * 2)), some (.ref (jpl false)), some (.int x2)], [])) (S' := [.int 6, .int 0, .ref (50 + 6 * 2 + 3), .int 0, .ref ((jpl false) + 6)]) (h' := (jX f g n2 p pa s (jup sa 2 (jup (sa 2) 2 ((jcpy (pa (jq false) 6) (sa 2 2) 0 0 6)))) sw rp t, z)) rfl).trans ?_
      refine (jev_prim (a := 1) (As := [.ref ((jpl false) + 6), .int 0, .ref (50 + 6 * 2 + 3), .int 0, .int 6]) (nx := 43) (rest := []) rfl (r := none) (h' := (jX f g n2 p pa s (jup sa 2 (jup (jup (sa 2) 2 ((jcpy (pa (jq false) 6) (sa 2 2) 0 0 6))) 3 ((jcpy (pa (jq false) 5) (sa 2 3) 0 0 6)))) sw rp t, z)) rfl).trans ?_
      refine (jev_blk 3 (pc' := 46) (L' := ([some (.ref (49 + 6 * 2)), some (.ref (jpl false)), some (.int x2)], [])) (S' := [.int 0, .ref (50 + 6 * 2 + 1)]) (h' := (jX f g n2 p pa s (jup sa 2 (jup (jup (sa 2) 2 ((jcpy (pa (jq false) 6) (sa 2 2) 0 0 6))) 3 ((jcpy (pa (jq false) 5) (sa 2 3) 0 0 6)))) sw rp t, z)) rfl).trans ?_
      exact jev_callb (nx := 47) (rest := []) rfl
  · refine (jev_blk 3 (pc' := if x2 < 30 then 11 else 27) (L' := ([some (.ref (49 + 6 * 2)), some (.ref (jpl true)), some (.int x2)], [])) (S' := []) (h' := (jX f g n2 p pa s sa sw rp t, z)) rfl).trans (jev_ite.trans (jite_congr (fun _ => ?_) (fun _ => ?_)))
    · refine (jev_blk 5 (pc' := 16) (L' := ([some (.ref (49 + 6 * 2)), some (.ref (jpl true)), some (.int x2)], [])) (S' := [.int x2, .ref (jpl true), .int x2, .ref (50 + 6 * 2 + 0)]) (h' := (jX f g n2 p pa s sa sw rp t, z)) rfl).trans ?_
      exact jev_callb (nx := 17) (rest := [.int x2, .ref (50 + 6 * 2 + 0)]) rfl
    · refine (jev_blk 7 (pc' := 34) (L' := ([some (.ref (49 + 6 * 2)), some (.ref (jpl true)), some (.int x2)], [])) (S' := [.int 6, .int 0, .ref (50 + 6 * 2 + 2), .int 0, .ref ((jpl true) + 7)]) (h' := (jX f g n2 p pa s sa sw rp t, z)) rfl).trans ?_
      refine (jev_prim (a := 1) (As := [.ref ((jpl true) + 7), .int 0, .ref (50 + 6 * 2 + 2), .int 0, .int 6]) (nx := 35) (rest := []) rfl (r := none) (h' := (jX f g n2 p pa s (jup sa 2 (jup (sa 2) 2 ((jcpy (pa (jq true) 6) (sa 2 2) 0 0 6)))) sw rp t, z)) rfl).trans ?_
      refine (jev_blk 7 (pc' := 42) (L' := ([some (.ref (49 + 6 * 2)), some (.ref (jpl true)), some (.int x2)], [])) (S' := [.int 6, .int 0, .ref (50 + 6 * 2 + 3), .int 0, .ref ((jpl true) + 6)]) (h' := (jX f g n2 p pa s (jup sa 2 (jup (sa 2) 2 ((jcpy (pa (jq true) 6) (sa 2 2) 0 0 6)))) sw rp t, z)) rfl).trans ?_
      refine (jev_prim (a := 1) (As := [.ref ((jpl true) + 6), .int 0, .ref (50 + 6 * 2 + 3), .int 0, .int 6]) (nx := 43) (rest := []) rfl (r := none) (h' := (jX f g n2 p pa s (jup sa 2 (jup (jup (sa 2) 2 ((jcpy (pa (jq true) 6) (sa 2 2) 0 0 6))) 3 ((jcpy (pa (jq true) 5) (sa 2 3) 0 0 6)))) sw rp t, z)) rfl).trans ?_
      refine (jev_blk 3 (pc' := 46) (L' := ([some (.ref (49 + 6 * 2)), some (.ref (jpl true)), some (.int x2)], [])) (S' := [.int 0, .ref (50 + 6 * 2 + 1)]) (h' := (jX f g n2 p pa s (jup sa 2 (jup (jup (sa 2) 2 ((jcpy (pa (jq true) 6) (sa 2 2) 0 0 6))) 3 ((jcpy (pa (jq true) 5) (sa 2 3) 0 0 6)))) sw rp t, z)) rfl).trans ?_
      exact jev_callb (nx := 47) (rest := []) rfl
set_option maxRecDepth 20000 in
theorem E_s_begin_17 {D : Nat} {j : Nat} {w : Bool} {x2 : Int32} {u0 : Int32} {u1 : Int32} {f : Nat → Int32} {g : Nat → Nat → Int32} {n2 : Nat → Nat → Int64} {p : Nat → Nat → Int32} {pa : Nat → Nat → Nat → Int32} {s : Nat → Nat → Int32} {sa : Nat → Nat → Nat → Int32} {sw : Bool} {rp : Value} {t : List jE} {z : Nat × Nat × Nat × (Nat → Int32)} (hj : j < 3) : jev D 74 17 ([some (.ref (49 + 6 * j)), some (.ref (jpl w)), some (.int x2)], []) [.int u0, .int u1, .ref (50 + 6 * j + 0)] (jX f g n2 p pa s sa sw rp t, z) = if u0 = 0 then (K_s_begin_24 D j w x2 0 u1 f g n2 p pa s sa sw rp t z) else (if jout x2 30 then none else (K_s_begin_24 D j w x2 (pa (jq w) 0 x2.toNatClampNeg) u1 f g n2 p pa s sa sw rp t z)) := by
  rcases jlt3 hj with rfl | rfl | rfl <;> cases w
  · refine (jev_blk 1 (pc' := if u0 = 0 then 23 else 18) (L' := ([some (.ref (49 + 6 * 0)), some (.ref (jpl false)), some (.int x2)], [])) (S' := [.int u1, .ref (50 + 6 * 0 + 0)]) (h' := (jX f g n2 p pa s sa sw rp t, z)) rfl).trans (jev_ite.trans (jite_congr (fun _ => ?_) (fun _ => ?_)))
    · exact jev_blk 1 rfl
    · refine (jev_blk 3 (pc' := 21) (L' := ([some (.ref (49 + 6 * 0)), some (.ref (jpl false)), some (.int x2)], [])) (S' := [.int x2, .ref ((jpl false) + 1), .int u1, .ref (50 + 6 * 0 + 0)]) (h' := (jX f g n2 p pa s sa sw rp t, z)) rfl).trans ?_
      refine (jev_grd (q := jout x2 30) (pc' := 22) (L' := ([some (.ref (49 + 6 * 0)), some (.ref (jpl false)), some (.int x2)], [])) (S' := [.int (pa (jq false) 0 x2.toNatClampNeg), .int u1, .ref (50 + 6 * 0 + 0)]) (h' := (jX f g n2 p pa s sa sw rp t, z)) rfl).trans (jite_congr (fun _ => rfl) (fun _ => ?_))
      exact jev_blk 1 rfl
  · refine (jev_blk 1 (pc' := if u0 = 0 then 23 else 18) (L' := ([some (.ref (49 + 6 * 0)), some (.ref (jpl true)), some (.int x2)], [])) (S' := [.int u1, .ref (50 + 6 * 0 + 0)]) (h' := (jX f g n2 p pa s sa sw rp t, z)) rfl).trans (jev_ite.trans (jite_congr (fun _ => ?_) (fun _ => ?_)))
    · exact jev_blk 1 rfl
    · refine (jev_blk 3 (pc' := 21) (L' := ([some (.ref (49 + 6 * 0)), some (.ref (jpl true)), some (.int x2)], [])) (S' := [.int x2, .ref ((jpl true) + 1), .int u1, .ref (50 + 6 * 0 + 0)]) (h' := (jX f g n2 p pa s sa sw rp t, z)) rfl).trans ?_
      refine (jev_grd (q := jout x2 30) (pc' := 22) (L' := ([some (.ref (49 + 6 * 0)), some (.ref (jpl true)), some (.int x2)], [])) (S' := [.int (pa (jq true) 0 x2.toNatClampNeg), .int u1, .ref (50 + 6 * 0 + 0)]) (h' := (jX f g n2 p pa s sa sw rp t, z)) rfl).trans (jite_congr (fun _ => rfl) (fun _ => ?_))
      exact jev_blk 1 rfl
  · refine (jev_blk 1 (pc' := if u0 = 0 then 23 else 18) (L' := ([some (.ref (49 + 6 * 1)), some (.ref (jpl false)), some (.int x2)], [])) (S' := [.int u1, .ref (50 + 6 * 1 + 0)]) (h' := (jX f g n2 p pa s sa sw rp t, z)) rfl).trans (jev_ite.trans (jite_congr (fun _ => ?_) (fun _ => ?_)))
    · exact jev_blk 1 rfl
    · refine (jev_blk 3 (pc' := 21) (L' := ([some (.ref (49 + 6 * 1)), some (.ref (jpl false)), some (.int x2)], [])) (S' := [.int x2, .ref ((jpl false) + 1), .int u1, .ref (50 + 6 * 1 + 0)]) (h' := (jX f g n2 p pa s sa sw rp t, z)) rfl).trans ?_
      refine (jev_grd (q := jout x2 30) (pc' := 22) (L' := ([some (.ref (49 + 6 * 1)), some (.ref (jpl false)), some (.int x2)], [])) (S' := [.int (pa (jq false) 0 x2.toNatClampNeg), .int u1, .ref (50 + 6 * 1 + 0)]) (h' := (jX f g n2 p pa s sa sw rp t, z)) rfl).trans (jite_congr (fun _ => rfl) (fun _ => ?_))
      exact jev_blk 1 rfl
  · refine (jev_blk 1 (pc' := if u0 = 0 then 23 else 18) (L' := ([some (.ref (49 + 6 * 1)), some (.ref (jpl true)), some (.int x2)], [])) (S' := [.int u1, .ref (50 + 6 * 1 + 0)]) (h' := (jX f g n2 p pa s sa sw rp t, z)) rfl).trans (jev_ite.trans (jite_congr (fun _ => ?_) (fun _ => ?_)))
    · exact jev_blk 1 rfl
    · refine (jev_blk 3 (pc' := 21) (L' := ([some (.ref (49 + 6 * 1)), some (.ref (jpl true)), some (.int x2)], [])) (S' := [.int x2, .ref ((jpl true) + 1), .int u1, .ref (50 + 6 * 1 + 0)]) (h' := (jX f g n2 p pa s sa sw rp t, z)) rfl).trans ?_
      refine (jev_grd (q := jout x2 30) (pc' := 22) (L' := ([some (.ref (49 + 6 * 1)), some (.ref (jpl true)), some (.int x2)], [])) (S' := [.int (pa (jq true) 0 x2.toNatClampNeg), .int u1, .ref (50 + 6 * 1 + 0)]) (h' := (jX f g n2 p pa s sa sw rp t, z)) rfl).trans (jite_congr (fun _ => rfl) (fun _ => ?_))
      exact jev_blk 1 rfl
  · refine (jev_blk 1 (pc' := if u0 = 0 then 23 else 18) (L' := ([some (.ref (49 + 6 * 2)), some (.ref (jpl false)), some (.int x2)], [])) (S' := [.int u1, .ref (50 + 6 * 2 + 0)]) (h' := (jX f g n2 p pa s sa sw rp t, z)) rfl).trans (jev_ite.trans (jite_congr (fun _ => ?_) (fun _ => ?_)))
    · exact jev_blk 1 rfl
    · refine (jev_blk 3 (pc' := 21) (L' := ([some (.ref (49 + 6 * 2)), some (.ref (jpl false)), some (.int x2)], [])) (S' := [.int x2, .ref ((jpl false) + 1), .int u1, .ref (50 + 6 * 2 + 0)]) (h' := (jX f g n2 p pa s sa sw rp t, z)) rfl).trans ?_
      refine (jev_grd (q := jout x2 30) (pc' := 22) (L' := ([some (.ref (49 + 6 * 2)), some (.ref (jpl false)), some (.int x2)], [])) (S' := [.int (pa (jq false) 0 x2.toNatClampNeg), .int u1, .ref (50 + 6 * 2 + 0)]) (h' := (jX f g n2 p pa s sa sw rp t, z)) rfl).trans (jite_congr (fun _ => rfl) (fun _ => ?_))
      exact jev_blk 1 rfl
  · refine (jev_blk 1 (pc' := if u0 = 0 then 23 else 18) (L' := ([some (.ref (49 + 6 * 2)), some (.ref (jpl true)), some (.int x2)], [])) (S' := [.int u1, .ref (50 + 6 * 2 + 0)]) (h' := (jX f g n2 p pa s sa sw rp t, z)) rfl).trans (jev_ite.trans (jite_congr (fun _ => ?_) (fun _ => ?_)))
    · exact jev_blk 1 rfl
    · refine (jev_blk 3 (pc' := 21) (L' := ([some (.ref (49 + 6 * 2)), some (.ref (jpl true)), some (.int x2)], [])) (S' := [.int x2, .ref ((jpl true) + 1), .int u1, .ref (50 + 6 * 2 + 0)]) (h' := (jX f g n2 p pa s sa sw rp t, z)) rfl).trans ?_
      refine (jev_grd (q := jout x2 30) (pc' := 22) (L' := ([some (.ref (49 + 6 * 2)), some (.ref (jpl true)), some (.int x2)], [])) (S' := [.int (pa (jq true) 0 x2.toNatClampNeg), .int u1, .ref (50 + 6 * 2 + 0)]) (h' := (jX f g n2 p pa s sa sw rp t, z)) rfl).trans (jite_congr (fun _ => rfl) (fun _ => ?_))
      exact jev_blk 1 rfl
set_option maxRecDepth 20000 in
theorem E_s_begin_24 {D : Nat} {j : Nat} {w : Bool} {x2 : Int32} {u0 : Int32} {u1 : Int32} {f : Nat → Int32} {g : Nat → Nat → Int32} {n2 : Nat → Nat → Int64} {p : Nat → Nat → Int32} {pa : Nat → Nat → Nat → Int32} {s : Nat → Nat → Int32} {sa : Nat → Nat → Nat → Int32} {sw : Bool} {rp : Value} {t : List jE} {z : Nat × Nat × Nat × (Nat → Int32)} (hj : j < 3) : K_s_begin_24 D j w x2 u0 u1 f g n2 p pa s sa sw rp t z = if jout u1 30 then none else (K_s_begin_8 D j w (x2 + 1) f g n2 p pa s (jup sa j (jup (sa j) 0 ((jup (sa j 0) (u1.toNatClampNeg) u0)))) sw rp t z) := by
  rcases jlt3 hj with rfl | rfl | rfl <;> cases w
  · refine (jev_grd (q := jout u1 30) (pc' := 25) (L' := ([some (.ref (49 + 6 * 0)), some (.ref (jpl false)), some (.int x2)], [])) (S' := []) (h' := (jX f g n2 p pa s (jup sa 0 (jup (sa 0) 0 ((jup (sa 0 0) (u1.toNatClampNeg) u0)))) sw rp t, z)) rfl).trans (jite_congr (fun _ => rfl) (fun _ => ?_))
    exact jev_blk 2 rfl
  · refine (jev_grd (q := jout u1 30) (pc' := 25) (L' := ([some (.ref (49 + 6 * 0)), some (.ref (jpl true)), some (.int x2)], [])) (S' := []) (h' := (jX f g n2 p pa s (jup sa 0 (jup (sa 0) 0 ((jup (sa 0 0) (u1.toNatClampNeg) u0)))) sw rp t, z)) rfl).trans (jite_congr (fun _ => rfl) (fun _ => ?_))
    exact jev_blk 2 rfl
  · refine (jev_grd (q := jout u1 30) (pc' := 25) (L' := ([some (.ref (49 + 6 * 1)), some (.ref (jpl false)), some (.int x2)], [])) (S' := []) (h' := (jX f g n2 p pa s (jup sa 1 (jup (sa 1) 0 ((jup (sa 1 0) (u1.toNatClampNeg) u0)))) sw rp t, z)) rfl).trans (jite_congr (fun _ => rfl) (fun _ => ?_))
    exact jev_blk 2 rfl
  · refine (jev_grd (q := jout u1 30) (pc' := 25) (L' := ([some (.ref (49 + 6 * 1)), some (.ref (jpl true)), some (.int x2)], [])) (S' := []) (h' := (jX f g n2 p pa s (jup sa 1 (jup (sa 1) 0 ((jup (sa 1 0) (u1.toNatClampNeg) u0)))) sw rp t, z)) rfl).trans (jite_congr (fun _ => rfl) (fun _ => ?_))
    exact jev_blk 2 rfl
  · refine (jev_grd (q := jout u1 30) (pc' := 25) (L' := ([some (.ref (49 + 6 * 2)), some (.ref (jpl false)), some (.int x2)], [])) (S' := []) (h' := (jX f g n2 p pa s (jup sa 2 (jup (sa 2) 0 ((jup (sa 2 0) (u1.toNatClampNeg) u0)))) sw rp t, z)) rfl).trans (jite_congr (fun _ => rfl) (fun _ => ?_))
    exact jev_blk 2 rfl
  · refine (jev_grd (q := jout u1 30) (pc' := 25) (L' := ([some (.ref (49 + 6 * 2)), some (.ref (jpl true)), some (.int x2)], [])) (S' := []) (h' := (jX f g n2 p pa s (jup sa 2 (jup (sa 2) 0 ((jup (sa 2 0) (u1.toNatClampNeg) u0)))) sw rp t, z)) rfl).trans (jite_congr (fun _ => rfl) (fun _ => ?_))
    exact jev_blk 2 rfl
set_option maxRecDepth 20000 in
theorem E_s_begin_47 {D : Nat} {j : Nat} {d1 : Option Value} {d2 : Option Value} {f : Nat → Int32} {g : Nat → Nat → Int32} {n2 : Nat → Nat → Int64} {p : Nat → Nat → Int32} {pa : Nat → Nat → Nat → Int32} {s : Nat → Nat → Int32} {sa : Nat → Nat → Nat → Int32} {sw : Bool} {rp : Value} {t : List jE} {z : Nat × Nat × Nat × (Nat → Int32)} (hj : j < 3) : jev D 74 47 ([some (.ref (49 + 6 * j)), d1, d2], []) [] (jX f g n2 p pa s sa sw rp t, z) = jbO (K_j_fill_s4 D j 0 f g n2 p pa s sa sw rp t z) (jk D 74 51 ([some (.ref (49 + 6 * j)), d1, d2], []) []) := by
  rcases jlt3 hj with rfl | rfl | rfl
  · refine (jev_blk 3 (pc' := 50) (L' := ([some (.ref (49 + 6 * 0)), d1, d2], [])) (S' := [.int 0, .ref (50 + 6 * 0 + 4)]) (h' := (jX f g n2 p pa s sa sw rp t, z)) rfl).trans ?_
    exact jev_callb (nx := 51) (rest := []) rfl
  · refine (jev_blk 3 (pc' := 50) (L' := ([some (.ref (49 + 6 * 1)), d1, d2], [])) (S' := [.int 0, .ref (50 + 6 * 1 + 4)]) (h' := (jX f g n2 p pa s sa sw rp t, z)) rfl).trans ?_
    exact jev_callb (nx := 51) (rest := []) rfl
  · refine (jev_blk 3 (pc' := 50) (L' := ([some (.ref (49 + 6 * 2)), d1, d2], [])) (S' := [.int 0, .ref (50 + 6 * 2 + 4)]) (h' := (jX f g n2 p pa s sa sw rp t, z)) rfl).trans ?_
    exact jev_callb (nx := 51) (rest := []) rfl
set_option maxRecDepth 20000 in
theorem E_s_begin_51 {D : Nat} {j : Nat} {d1 : Option Value} {d2 : Option Value} {f : Nat → Int32} {g : Nat → Nat → Int32} {n2 : Nat → Nat → Int64} {p : Nat → Nat → Int32} {pa : Nat → Nat → Nat → Int32} {s : Nat → Nat → Int32} {sa : Nat → Nat → Nat → Int32} {sw : Bool} {rp : Value} {t : List jE} {z : Nat × Nat × Nat × (Nat → Int32)} (hj : j < 3) : jev D 74 51 ([some (.ref (49 + 6 * j)), d1, d2], []) [] (jX f g n2 p pa s sa sw rp t, z) = some (.inl (none), (jX f g n2 p pa (jup s j (jup (jup (jup (jup (s j) 2 (0)) 3 (0)) 4 (0)) 5 (0))) sa sw rp t, z)) := by
  rcases jlt3 hj with rfl | rfl | rfl
  · refine (jev_blk 12 (pc' := 63) (L' := ([some (.ref (49 + 6 * 0)), d1, d2], [])) (S' := []) (h' := (jX f g n2 p pa (jup s 0 (jup (jup (jup (jup (s 0) 2 (0)) 3 (0)) 4 (0)) 5 (0))) sa sw rp t, z)) rfl).trans ?_
    exact jev_fin rfl
  · refine (jev_blk 12 (pc' := 63) (L' := ([some (.ref (49 + 6 * 1)), d1, d2], [])) (S' := []) (h' := (jX f g n2 p pa (jup s 1 (jup (jup (jup (jup (s 1) 2 (0)) 3 (0)) 4 (0)) 5 (0))) sa sw rp t, z)) rfl).trans ?_
    exact jev_fin rfl
  · refine (jev_blk 12 (pc' := 63) (L' := ([some (.ref (49 + 6 * 2)), d1, d2], [])) (S' := []) (h' := (jX f g n2 p pa (jup s 2 (jup (jup (jup (jup (s 2) 2 (0)) 3 (0)) 4 (0)) 5 (0))) sa sw rp t, z)) rfl).trans ?_
    exact jev_fin rfl
set_option maxRecDepth 20000 in
theorem E_s_copy10 {D : Nat}   {f : Nat → Int32} {g : Nat → Nat → Int32} {n2 : Nat → Nat → Int64} {p : Nat → Nat → Int32} {pa : Nat → Nat → Nat → Int32} {s : Nat → Nat → Int32} {sa : Nat → Nat → Nat → Int32} {sw : Bool} {rp : Value} {t : List jE} {z : Nat × Nat × Nat × (Nat → Int32)}  : K_s_copy10 D f g n2 p pa s sa sw rp t z = some (.inl (none), (jX f g n2 p pa (jup s 1 (jup (jup (jup (jup (jup (jup (s 1) 0 ((s 0 0))) 1 ((s 0 1))) 2 ((s 0 2))) 3 ((s 0 3))) 4 ((s 0 4))) 5 ((s 0 5)))) (jup sa 1 (jup (jup (jup (jup (jup (sa 1) 0 ((jcpy (sa 0 0) (sa 1 0) 0 0 30))) 1 ((jcpy (sa 0 1) (sa 1 1) 0 0 12))) 2 ((jcpy (sa 0 2) (sa 1 2) 0 0 6))) 3 ((jcpy (sa 0 3) (sa 1 3) 0 0 6))) 4 ((jcpy (sa 0 4) (sa 1 4) 0 0 6)))) sw rp t, z)) := by
  refine (jev_blk 15 (pc' := 15) (L' := ([some (.ref 55), some (.ref 49)], [])) (S' := [.int 30, .int 0, .ref 56, .int 0, .ref 50]) (h' := (jX f g n2 p pa (jup s 1 (jup (jup (s 1) 0 ((s 0 0))) 1 ((s 0 1)))) sa sw rp t, z)) rfl).trans ?_
  refine (jev_prim (a := 1) (As := [.ref 50, .int 0, .ref 56, .int 0, .int 30]) (nx := 16) (rest := []) rfl (r := none) (h' := (jX f g n2 p pa (jup s 1 (jup (jup (s 1) 0 ((s 0 0))) 1 ((s 0 1)))) (jup sa 1 (jup (sa 1) 0 ((jcpy (sa 0 0) (sa 1 0) 0 0 30)))) sw rp t, z)) rfl).trans ?_
  refine (jev_blk 7 (pc' := 23) (L' := ([some (.ref 55), some (.ref 49)], [])) (S' := [.int 12, .int 0, .ref 57, .int 0, .ref 51]) (h' := (jX f g n2 p pa (jup s 1 (jup (jup (s 1) 0 ((s 0 0))) 1 ((s 0 1)))) (jup sa 1 (jup (sa 1) 0 ((jcpy (sa 0 0) (sa 1 0) 0 0 30)))) sw rp t, z)) rfl).trans ?_
  refine (jev_prim (a := 1) (As := [.ref 51, .int 0, .ref 57, .int 0, .int 12]) (nx := 24) (rest := []) rfl (r := none) (h' := (jX f g n2 p pa (jup s 1 (jup (jup (s 1) 0 ((s 0 0))) 1 ((s 0 1)))) (jup sa 1 (jup (jup (sa 1) 0 ((jcpy (sa 0 0) (sa 1 0) 0 0 30))) 1 ((jcpy (sa 0 1) (sa 1 1) 0 0 12)))) sw rp t, z)) rfl).trans ?_
  refine (jev_blk 7 (pc' := 31) (L' := ([some (.ref 55), some (.ref 49)], [])) (S' := [.int 6, .int 0, .ref 58, .int 0, .ref 52]) (h' := (jX f g n2 p pa (jup s 1 (jup (jup (s 1) 0 ((s 0 0))) 1 ((s 0 1)))) (jup sa 1 (jup (jup (sa 1) 0 ((jcpy (sa 0 0) (sa 1 0) 0 0 30))) 1 ((jcpy (sa 0 1) (sa 1 1) 0 0 12)))) sw rp t, z)) rfl).trans ?_
  refine (jev_prim (a := 1) (As := [.ref 52, .int 0, .ref 58, .int 0, .int 6]) (nx := 32) (rest := []) rfl (r := none) (h' := (jX f g n2 p pa (jup s 1 (jup (jup (s 1) 0 ((s 0 0))) 1 ((s 0 1)))) (jup sa 1 (jup (jup (jup (sa 1) 0 ((jcpy (sa 0 0) (sa 1 0) 0 0 30))) 1 ((jcpy (sa 0 1) (sa 1 1) 0 0 12))) 2 ((jcpy (sa 0 2) (sa 1 2) 0 0 6)))) sw rp t, z)) rfl).trans ?_
  refine (jev_blk 7 (pc' := 39) (L' := ([some (.ref 55), some (.ref 49)], [])) (S' := [.int 6, .int 0, .ref 59, .int 0, .ref 53]) (h' := (jX f g n2 p pa (jup s 1 (jup (jup (s 1) 0 ((s 0 0))) 1 ((s 0 1)))) (jup sa 1 (jup (jup (jup (sa 1) 0 ((jcpy (sa 0 0) (sa 1 0) 0 0 30))) 1 ((jcpy (sa 0 1) (sa 1 1) 0 0 12))) 2 ((jcpy (sa 0 2) (sa 1 2) 0 0 6)))) sw rp t, z)) rfl).trans ?_
  refine (jev_prim (a := 1) (As := [.ref 53, .int 0, .ref 59, .int 0, .int 6]) (nx := 40) (rest := []) rfl (r := none) (h' := (jX f g n2 p pa (jup s 1 (jup (jup (s 1) 0 ((s 0 0))) 1 ((s 0 1)))) (jup sa 1 (jup (jup (jup (jup (sa 1) 0 ((jcpy (sa 0 0) (sa 1 0) 0 0 30))) 1 ((jcpy (sa 0 1) (sa 1 1) 0 0 12))) 2 ((jcpy (sa 0 2) (sa 1 2) 0 0 6))) 3 ((jcpy (sa 0 3) (sa 1 3) 0 0 6)))) sw rp t, z)) rfl).trans ?_
  refine (jev_blk 7 (pc' := 47) (L' := ([some (.ref 55), some (.ref 49)], [])) (S' := [.int 6, .int 0, .ref 60, .int 0, .ref 54]) (h' := (jX f g n2 p pa (jup s 1 (jup (jup (s 1) 0 ((s 0 0))) 1 ((s 0 1)))) (jup sa 1 (jup (jup (jup (jup (sa 1) 0 ((jcpy (sa 0 0) (sa 1 0) 0 0 30))) 1 ((jcpy (sa 0 1) (sa 1 1) 0 0 12))) 2 ((jcpy (sa 0 2) (sa 1 2) 0 0 6))) 3 ((jcpy (sa 0 3) (sa 1 3) 0 0 6)))) sw rp t, z)) rfl).trans ?_
  refine (jev_prim (a := 1) (As := [.ref 54, .int 0, .ref 60, .int 0, .int 6]) (nx := 48) (rest := []) rfl (r := none) (h' := (jX f g n2 p pa (jup s 1 (jup (jup (s 1) 0 ((s 0 0))) 1 ((s 0 1)))) (jup sa 1 (jup (jup (jup (jup (jup (sa 1) 0 ((jcpy (sa 0 0) (sa 1 0) 0 0 30))) 1 ((jcpy (sa 0 1) (sa 1 1) 0 0 12))) 2 ((jcpy (sa 0 2) (sa 1 2) 0 0 6))) 3 ((jcpy (sa 0 3) (sa 1 3) 0 0 6))) 4 ((jcpy (sa 0 4) (sa 1 4) 0 0 6)))) sw rp t, z)) rfl).trans ?_
  refine (jev_blk 16 (pc' := 64) (L' := ([some (.ref 55), some (.ref 49)], [])) (S' := []) (h' := (jX f g n2 p pa (jup s 1 (jup (jup (jup (jup (jup (jup (s 1) 0 ((s 0 0))) 1 ((s 0 1))) 2 ((s 0 2))) 3 ((s 0 3))) 4 ((s 0 4))) 5 ((s 0 5)))) (jup sa 1 (jup (jup (jup (jup (jup (sa 1) 0 ((jcpy (sa 0 0) (sa 1 0) 0 0 30))) 1 ((jcpy (sa 0 1) (sa 1 1) 0 0 12))) 2 ((jcpy (sa 0 2) (sa 1 2) 0 0 6))) 3 ((jcpy (sa 0 3) (sa 1 3) 0 0 6))) 4 ((jcpy (sa 0 4) (sa 1 4) 0 0 6)))) sw rp t, z)) rfl).trans ?_
  exact jev_fin rfl
set_option maxRecDepth 20000 in
theorem E_s_copy01 {D : Nat}   {f : Nat → Int32} {g : Nat → Nat → Int32} {n2 : Nat → Nat → Int64} {p : Nat → Nat → Int32} {pa : Nat → Nat → Nat → Int32} {s : Nat → Nat → Int32} {sa : Nat → Nat → Nat → Int32} {sw : Bool} {rp : Value} {t : List jE} {z : Nat × Nat × Nat × (Nat → Int32)}  : K_s_copy01 D f g n2 p pa s sa sw rp t z = some (.inl (none), (jX f g n2 p pa (jup s 0 (jup (jup (jup (jup (jup (jup (s 0) 0 ((s 1 0))) 1 ((s 1 1))) 2 ((s 1 2))) 3 ((s 1 3))) 4 ((s 1 4))) 5 ((s 1 5)))) (jup sa 0 (jup (jup (jup (jup (jup (sa 0) 0 ((jcpy (sa 1 0) (sa 0 0) 0 0 30))) 1 ((jcpy (sa 1 1) (sa 0 1) 0 0 12))) 2 ((jcpy (sa 1 2) (sa 0 2) 0 0 6))) 3 ((jcpy (sa 1 3) (sa 0 3) 0 0 6))) 4 ((jcpy (sa 1 4) (sa 0 4) 0 0 6)))) sw rp t, z)) := by
  refine (jev_blk 15 (pc' := 15) (L' := ([some (.ref 49), some (.ref 55)], [])) (S' := [.int 30, .int 0, .ref 50, .int 0, .ref 56]) (h' := (jX f g n2 p pa (jup s 0 (jup (jup (s 0) 0 ((s 1 0))) 1 ((s 1 1)))) sa sw rp t, z)) rfl).trans ?_
  refine (jev_prim (a := 1) (As := [.ref 56, .int 0, .ref 50, .int 0, .int 30]) (nx := 16) (rest := []) rfl (r := none) (h' := (jX f g n2 p pa (jup s 0 (jup (jup (s 0) 0 ((s 1 0))) 1 ((s 1 1)))) (jup sa 0 (jup (sa 0) 0 ((jcpy (sa 1 0) (sa 0 0) 0 0 30)))) sw rp t, z)) rfl).trans ?_
  refine (jev_blk 7 (pc' := 23) (L' := ([some (.ref 49), some (.ref 55)], [])) (S' := [.int 12, .int 0, .ref 51, .int 0, .ref 57]) (h' := (jX f g n2 p pa (jup s 0 (jup (jup (s 0) 0 ((s 1 0))) 1 ((s 1 1)))) (jup sa 0 (jup (sa 0) 0 ((jcpy (sa 1 0) (sa 0 0) 0 0 30)))) sw rp t, z)) rfl).trans ?_
  refine (jev_prim (a := 1) (As := [.ref 57, .int 0, .ref 51, .int 0, .int 12]) (nx := 24) (rest := []) rfl (r := none) (h' := (jX f g n2 p pa (jup s 0 (jup (jup (s 0) 0 ((s 1 0))) 1 ((s 1 1)))) (jup sa 0 (jup (jup (sa 0) 0 ((jcpy (sa 1 0) (sa 0 0) 0 0 30))) 1 ((jcpy (sa 1 1) (sa 0 1) 0 0 12)))) sw rp t, z)) rfl).trans ?_
  refine (jev_blk 7 (pc' := 31) (L' := ([some (.ref 49), some (.ref 55)], [])) (S' := [.int 6, .int 0, .ref 52, .int 0, .ref 58]) (h' := (jX f g n2 p pa (jup s 0 (jup (jup (s 0) 0 ((s 1 0))) 1 ((s 1 1)))) (jup sa 0 (jup (jup (sa 0) 0 ((jcpy (sa 1 0) (sa 0 0) 0 0 30))) 1 ((jcpy (sa 1 1) (sa 0 1) 0 0 12)))) sw rp t, z)) rfl).trans ?_
  refine (jev_prim (a := 1) (As := [.ref 58, .int 0, .ref 52, .int 0, .int 6]) (nx := 32) (rest := []) rfl (r := none) (h' := (jX f g n2 p pa (jup s 0 (jup (jup (s 0) 0 ((s 1 0))) 1 ((s 1 1)))) (jup sa 0 (jup (jup (jup (sa 0) 0 ((jcpy (sa 1 0) (sa 0 0) 0 0 30))) 1 ((jcpy (sa 1 1) (sa 0 1) 0 0 12))) 2 ((jcpy (sa 1 2) (sa 0 2) 0 0 6)))) sw rp t, z)) rfl).trans ?_
  refine (jev_blk 7 (pc' := 39) (L' := ([some (.ref 49), some (.ref 55)], [])) (S' := [.int 6, .int 0, .ref 53, .int 0, .ref 59]) (h' := (jX f g n2 p pa (jup s 0 (jup (jup (s 0) 0 ((s 1 0))) 1 ((s 1 1)))) (jup sa 0 (jup (jup (jup (sa 0) 0 ((jcpy (sa 1 0) (sa 0 0) 0 0 30))) 1 ((jcpy (sa 1 1) (sa 0 1) 0 0 12))) 2 ((jcpy (sa 1 2) (sa 0 2) 0 0 6)))) sw rp t, z)) rfl).trans ?_
  refine (jev_prim (a := 1) (As := [.ref 59, .int 0, .ref 53, .int 0, .int 6]) (nx := 40) (rest := []) rfl (r := none) (h' := (jX f g n2 p pa (jup s 0 (jup (jup (s 0) 0 ((s 1 0))) 1 ((s 1 1)))) (jup sa 0 (jup (jup (jup (jup (sa 0) 0 ((jcpy (sa 1 0) (sa 0 0) 0 0 30))) 1 ((jcpy (sa 1 1) (sa 0 1) 0 0 12))) 2 ((jcpy (sa 1 2) (sa 0 2) 0 0 6))) 3 ((jcpy (sa 1 3) (sa 0 3) 0 0 6)))) sw rp t, z)) rfl).trans ?_
  refine (jev_blk 7 (pc' := 47) (L' := ([some (.ref 49), some (.ref 55)], [])) (S' := [.int 6, .int 0, .ref 54, .int 0, .ref 60]) (h' := (jX f g n2 p pa (jup s 0 (jup (jup (s 0) 0 ((s 1 0))) 1 ((s 1 1)))) (jup sa 0 (jup (jup (jup (jup (sa 0) 0 ((jcpy (sa 1 0) (sa 0 0) 0 0 30))) 1 ((jcpy (sa 1 1) (sa 0 1) 0 0 12))) 2 ((jcpy (sa 1 2) (sa 0 2) 0 0 6))) 3 ((jcpy (sa 1 3) (sa 0 3) 0 0 6)))) sw rp t, z)) rfl).trans ?_
  refine (jev_prim (a := 1) (As := [.ref 60, .int 0, .ref 54, .int 0, .int 6]) (nx := 48) (rest := []) rfl (r := none) (h' := (jX f g n2 p pa (jup s 0 (jup (jup (s 0) 0 ((s 1 0))) 1 ((s 1 1)))) (jup sa 0 (jup (jup (jup (jup (jup (sa 0) 0 ((jcpy (sa 1 0) (sa 0 0) 0 0 30))) 1 ((jcpy (sa 1 1) (sa 0 1) 0 0 12))) 2 ((jcpy (sa 1 2) (sa 0 2) 0 0 6))) 3 ((jcpy (sa 1 3) (sa 0 3) 0 0 6))) 4 ((jcpy (sa 1 4) (sa 0 4) 0 0 6)))) sw rp t, z)) rfl).trans ?_
  refine (jev_blk 16 (pc' := 64) (L' := ([some (.ref 49), some (.ref 55)], [])) (S' := []) (h' := (jX f g n2 p pa (jup s 0 (jup (jup (jup (jup (jup (jup (s 0) 0 ((s 1 0))) 1 ((s 1 1))) 2 ((s 1 2))) 3 ((s 1 3))) 4 ((s 1 4))) 5 ((s 1 5)))) (jup sa 0 (jup (jup (jup (jup (jup (sa 0) 0 ((jcpy (sa 1 0) (sa 0 0) 0 0 30))) 1 ((jcpy (sa 1 1) (sa 0 1) 0 0 12))) 2 ((jcpy (sa 1 2) (sa 0 2) 0 0 6))) 3 ((jcpy (sa 1 3) (sa 0 3) 0 0 6))) 4 ((jcpy (sa 1 4) (sa 0 4) 0 0 6)))) sw rp t, z)) rfl).trans ?_
  exact jev_fin rfl
set_option maxRecDepth 20000 in
theorem E_s_copy20 {D : Nat}   {f : Nat → Int32} {g : Nat → Nat → Int32} {n2 : Nat → Nat → Int64} {p : Nat → Nat → Int32} {pa : Nat → Nat → Nat → Int32} {s : Nat → Nat → Int32} {sa : Nat → Nat → Nat → Int32} {sw : Bool} {rp : Value} {t : List jE} {z : Nat × Nat × Nat × (Nat → Int32)}  : K_s_copy20 D f g n2 p pa s sa sw rp t z = some (.inl (none), (jX f g n2 p pa (jup s 2 (jup (jup (jup (jup (jup (jup (s 2) 0 ((s 0 0))) 1 ((s 0 1))) 2 ((s 0 2))) 3 ((s 0 3))) 4 ((s 0 4))) 5 ((s 0 5)))) (jup sa 2 (jup (jup (jup (jup (jup (sa 2) 0 ((jcpy (sa 0 0) (sa 2 0) 0 0 30))) 1 ((jcpy (sa 0 1) (sa 2 1) 0 0 12))) 2 ((jcpy (sa 0 2) (sa 2 2) 0 0 6))) 3 ((jcpy (sa 0 3) (sa 2 3) 0 0 6))) 4 ((jcpy (sa 0 4) (sa 2 4) 0 0 6)))) sw rp t, z)) := by
  refine (jev_blk 15 (pc' := 15) (L' := ([some (.ref 61), some (.ref 49)], [])) (S' := [.int 30, .int 0, .ref 62, .int 0, .ref 50]) (h' := (jX f g n2 p pa (jup s 2 (jup (jup (s 2) 0 ((s 0 0))) 1 ((s 0 1)))) sa sw rp t, z)) rfl).trans ?_
  refine (jev_prim (a := 1) (As := [.ref 50, .int 0, .ref 62, .int 0, .int 30]) (nx := 16) (rest := []) rfl (r := none) (h' := (jX f g n2 p pa (jup s 2 (jup (jup (s 2) 0 ((s 0 0))) 1 ((s 0 1)))) (jup sa 2 (jup (sa 2) 0 ((jcpy (sa 0 0) (sa 2 0) 0 0 30)))) sw rp t, z)) rfl).trans ?_
  refine (jev_blk 7 (pc' := 23) (L' := ([some (.ref 61), some (.ref 49)], [])) (S' := [.int 12, .int 0, .ref 63, .int 0, .ref 51]) (h' := (jX f g n2 p pa (jup s 2 (jup (jup (s 2) 0 ((s 0 0))) 1 ((s 0 1)))) (jup sa 2 (jup (sa 2) 0 ((jcpy (sa 0 0) (sa 2 0) 0 0 30)))) sw rp t, z)) rfl).trans ?_
  refine (jev_prim (a := 1) (As := [.ref 51, .int 0, .ref 63, .int 0, .int 12]) (nx := 24) (rest := []) rfl (r := none) (h' := (jX f g n2 p pa (jup s 2 (jup (jup (s 2) 0 ((s 0 0))) 1 ((s 0 1)))) (jup sa 2 (jup (jup (sa 2) 0 ((jcpy (sa 0 0) (sa 2 0) 0 0 30))) 1 ((jcpy (sa 0 1) (sa 2 1) 0 0 12)))) sw rp t, z)) rfl).trans ?_
  refine (jev_blk 7 (pc' := 31) (L' := ([some (.ref 61), some (.ref 49)], [])) (S' := [.int 6, .int 0, .ref 64, .int 0, .ref 52]) (h' := (jX f g n2 p pa (jup s 2 (jup (jup (s 2) 0 ((s 0 0))) 1 ((s 0 1)))) (jup sa 2 (jup (jup (sa 2) 0 ((jcpy (sa 0 0) (sa 2 0) 0 0 30))) 1 ((jcpy (sa 0 1) (sa 2 1) 0 0 12)))) sw rp t, z)) rfl).trans ?_
  refine (jev_prim (a := 1) (As := [.ref 52, .int 0, .ref 64, .int 0, .int 6]) (nx := 32) (rest := []) rfl (r := none) (h' := (jX f g n2 p pa (jup s 2 (jup (jup (s 2) 0 ((s 0 0))) 1 ((s 0 1)))) (jup sa 2 (jup (jup (jup (sa 2) 0 ((jcpy (sa 0 0) (sa 2 0) 0 0 30))) 1 ((jcpy (sa 0 1) (sa 2 1) 0 0 12))) 2 ((jcpy (sa 0 2) (sa 2 2) 0 0 6)))) sw rp t, z)) rfl).trans ?_
  refine (jev_blk 7 (pc' := 39) (L' := ([some (.ref 61), some (.ref 49)], [])) (S' := [.int 6, .int 0, .ref 65, .int 0, .ref 53]) (h' := (jX f g n2 p pa (jup s 2 (jup (jup (s 2) 0 ((s 0 0))) 1 ((s 0 1)))) (jup sa 2 (jup (jup (jup (sa 2) 0 ((jcpy (sa 0 0) (sa 2 0) 0 0 30))) 1 ((jcpy (sa 0 1) (sa 2 1) 0 0 12))) 2 ((jcpy (sa 0 2) (sa 2 2) 0 0 6)))) sw rp t, z)) rfl).trans ?_
  refine (jev_prim (a := 1) (As := [.ref 53, .int 0, .ref 65, .int 0, .int 6]) (nx := 40) (rest := []) rfl (r := none) (h' := (jX f g n2 p pa (jup s 2 (jup (jup (s 2) 0 ((s 0 0))) 1 ((s 0 1)))) (jup sa 2 (jup (jup (jup (jup (sa 2) 0 ((jcpy (sa 0 0) (sa 2 0) 0 0 30))) 1 ((jcpy (sa 0 1) (sa 2 1) 0 0 12))) 2 ((jcpy (sa 0 2) (sa 2 2) 0 0 6))) 3 ((jcpy (sa 0 3) (sa 2 3) 0 0 6)))) sw rp t, z)) rfl).trans ?_
  refine (jev_blk 7 (pc' := 47) (L' := ([some (.ref 61), some (.ref 49)], [])) (S' := [.int 6, .int 0, .ref 66, .int 0, .ref 54]) (h' := (jX f g n2 p pa (jup s 2 (jup (jup (s 2) 0 ((s 0 0))) 1 ((s 0 1)))) (jup sa 2 (jup (jup (jup (jup (sa 2) 0 ((jcpy (sa 0 0) (sa 2 0) 0 0 30))) 1 ((jcpy (sa 0 1) (sa 2 1) 0 0 12))) 2 ((jcpy (sa 0 2) (sa 2 2) 0 0 6))) 3 ((jcpy (sa 0 3) (sa 2 3) 0 0 6)))) sw rp t, z)) rfl).trans ?_
  refine (jev_prim (a := 1) (As := [.ref 54, .int 0, .ref 66, .int 0, .int 6]) (nx := 48) (rest := []) rfl (r := none) (h' := (jX f g n2 p pa (jup s 2 (jup (jup (s 2) 0 ((s 0 0))) 1 ((s 0 1)))) (jup sa 2 (jup (jup (jup (jup (jup (sa 2) 0 ((jcpy (sa 0 0) (sa 2 0) 0 0 30))) 1 ((jcpy (sa 0 1) (sa 2 1) 0 0 12))) 2 ((jcpy (sa 0 2) (sa 2 2) 0 0 6))) 3 ((jcpy (sa 0 3) (sa 2 3) 0 0 6))) 4 ((jcpy (sa 0 4) (sa 2 4) 0 0 6)))) sw rp t, z)) rfl).trans ?_
  refine (jev_blk 16 (pc' := 64) (L' := ([some (.ref 61), some (.ref 49)], [])) (S' := []) (h' := (jX f g n2 p pa (jup s 2 (jup (jup (jup (jup (jup (jup (s 2) 0 ((s 0 0))) 1 ((s 0 1))) 2 ((s 0 2))) 3 ((s 0 3))) 4 ((s 0 4))) 5 ((s 0 5)))) (jup sa 2 (jup (jup (jup (jup (jup (sa 2) 0 ((jcpy (sa 0 0) (sa 2 0) 0 0 30))) 1 ((jcpy (sa 0 1) (sa 2 1) 0 0 12))) 2 ((jcpy (sa 0 2) (sa 2 2) 0 0 6))) 3 ((jcpy (sa 0 3) (sa 2 3) 0 0 6))) 4 ((jcpy (sa 0 4) (sa 2 4) 0 0 6)))) sw rp t, z)) rfl).trans ?_
  exact jev_fin rfl
set_option maxRecDepth 20000 in
theorem E_s_follow20 {D : Nat}   {f : Nat → Int32} {g : Nat → Nat → Int32} {n2 : Nat → Nat → Int64} {p : Nat → Nat → Int32} {pa : Nat → Nat → Nat → Int32} {s : Nat → Nat → Int32} {sa : Nat → Nat → Nat → Int32} {sw : Bool} {rp : Value} {t : List jE} {z : Nat × Nat × Nat × (Nat → Int32)}  : K_s_follow20 D f g n2 p pa s sa sw rp t z = jbO (K_s_copy20 D f g n2 p pa s sa sw rp t z) (jk D 76 3 ([some (.ref 61), some (.ref 49)], []) []) := by
  refine (jev_blk 2 (pc' := 2) (L' := ([some (.ref 61), some (.ref 49)], [])) (S' := [.ref 49, .ref 61]) (h' := (jX f g n2 p pa s sa sw rp t, z)) rfl).trans ?_
  exact jev_callb (nx := 3) (rest := []) rfl
set_option maxRecDepth 20000 in
theorem E_s_follow20_3 {D : Nat}  {d1 : Option Value} {f : Nat → Int32} {g : Nat → Nat → Int32} {n2 : Nat → Nat → Int64} {p : Nat → Nat → Int32} {pa : Nat → Nat → Nat → Int32} {s : Nat → Nat → Int32} {sa : Nat → Nat → Nat → Int32} {sw : Bool} {rp : Value} {t : List jE} {z : Nat × Nat × Nat × (Nat → Int32)}  : jev D 76 3 ([some (.ref 61), d1], []) [] (jX f g n2 p pa s sa sw rp t, z) = some (.inl (none), (jX f g n2 p pa (jup s 2 (jup (jup (jup (s 2) 3 (0)) 4 (0)) 5 (0))) sa sw rp t, z)) := by
  refine (jev_blk 9 (pc' := 12) (L' := ([some (.ref 61), d1], [])) (S' := []) (h' := (jX f g n2 p pa (jup s 2 (jup (jup (jup (s 2) 3 (0)) 4 (0)) 5 (0))) sa sw rp t, z)) rfl).trans ?_
  exact jev_fin rfl
set_option maxRecDepth 20000 in
theorem E_p_clear {D : Nat} {w : Bool}  {f : Nat → Int32} {g : Nat → Nat → Int32} {n2 : Nat → Nat → Int64} {p : Nat → Nat → Int32} {pa : Nat → Nat → Nat → Int32} {s : Nat → Nat → Int32} {sa : Nat → Nat → Nat → Int32} {sw : Bool} {rp : Value} {t : List jE} {z : Nat × Nat × Nat × (Nat → Int32)}  : K_p_clear D w f g n2 p pa s sa sw rp t z = jbO (K_j_fill_p0 D w 10 f g n2 (jup p (jq w) (jup (jup (jup (p (jq w)) 0 (0)) 1 (5)) 2 (4))) pa s sa sw rp t z) (jk D 40 13 ([some (.ref (jpl w)), none], []) []) := by
  cases w
  · refine (jev_blk 12 (pc' := 12) (L' := ([some (.ref (jpl false)), none], [])) (S' := [.int 10, .ref ((jpl false) + 1)]) (h' := (jX f g n2 (jup p (jq false) (jup (jup (jup (p (jq false)) 0 (0)) 1 (5)) 2 (4))) pa s sa sw rp t, z)) rfl).trans ?_
    exact jev_callb (nx := 13) (rest := []) rfl
  · refine (jev_blk 12 (pc' := 12) (L' := ([some (.ref (jpl true)), none], [])) (S' := [.int 10, .ref ((jpl true) + 1)]) (h' := (jX f g n2 (jup p (jq true) (jup (jup (jup (p (jq true)) 0 (0)) 1 (5)) 2 (4))) pa s sa sw rp t, z)) rfl).trans ?_
    exact jev_callb (nx := 13) (rest := []) rfl
set_option maxRecDepth 20000 in
theorem E_p_clear_13 {D : Nat} {w : Bool} {d1 : Option Value} {f : Nat → Int32} {g : Nat → Nat → Int32} {n2 : Nat → Nat → Int64} {p : Nat → Nat → Int32} {pa : Nat → Nat → Nat → Int32} {s : Nat → Nat → Int32} {sa : Nat → Nat → Nat → Int32} {sw : Bool} {rp : Value} {t : List jE} {z : Nat × Nat × Nat × (Nat → Int32)}  : jev D 40 13 ([some (.ref (jpl w)), d1], []) [] (jX f g n2 p pa s sa sw rp t, z) = some (.inl (none), (jX f g n2 (jup p (jq w) (jup (jup (jup (jup (jup (jup (jup (jup (jup (jup (p (jq w)) 10 (0)) 11 (0)) 12 (0)) 3 (0)) 4 (0)) 5 (0)) 6 (12)) 7 (5)) 8 (10)) 9 (0))) pa s sa sw rp t, z)) := by
  cases w
  · refine (jev_blk 59 (pc' := 47) (L' := ([some (.ref (jpl false)), some (.int 3)], [])) (S' := []) (h' := (jX f g n2 (jup p (jq false) (jup (jup (jup (jup (jup (jup (jup (jup (jup (jup (p (jq false)) 10 (0)) 11 (0)) 12 (0)) 3 (0)) 4 (0)) 5 (0)) 6 (12)) 7 (5)) 8 (10)) 9 (0))) pa s sa sw rp t, z)) rfl).trans ?_
    exact jev_fin rfl
  · refine (jev_blk 59 (pc' := 47) (L' := ([some (.ref (jpl true)), some (.int 3)], [])) (S' := []) (h' := (jX f g n2 (jup p (jq true) (jup (jup (jup (jup (jup (jup (jup (jup (jup (jup (p (jq true)) 10 (0)) 11 (0)) 12 (0)) 3 (0)) 4 (0)) 5 (0)) 6 (12)) 7 (5)) 8 (10)) 9 (0))) pa s sa sw rp t, z)) rfl).trans ?_
    exact jev_fin rfl
set_option maxRecDepth 20000 in
theorem E_p_cells {D : Nat} {w : Bool}  {f : Nat → Int32} {g : Nat → Nat → Int32} {n2 : Nat → Nat → Int64} {p : Nat → Nat → Int32} {pa : Nat → Nat → Nat → Int32} {s : Nat → Nat → Int32} {sa : Nat → Nat → Nat → Int32} {sw : Bool} {rp : Value} {t : List jE} {z : Nat × Nat × Nat × (Nat → Int32)}  : K_p_cells D w f g n2 p pa s sa sw rp t z = some (.inl (some (.int ((p (jq w) 1) * (p (jq w) 2)))), (jX f g n2 p pa s sa sw rp t, z)) := by
  cases w
  · refine (jev_blk 5 (pc' := 5) (L' := ([some (.ref (jpl false))], [])) (S' := [.int ((p (jq false) 1) * (p (jq false) 2))]) (h' := (jX f g n2 p pa s sa sw rp t, z)) rfl).trans ?_
    exact jev_fin rfl
  · refine (jev_blk 5 (pc' := 5) (L' := ([some (.ref (jpl true))], [])) (S' := [.int ((p (jq true) 1) * (p (jq true) 2))]) (h' := (jX f g n2 p pa s sa sw rp t, z)) rfl).trans ?_
    exact jev_fin rfl
set_option maxRecDepth 20000 in
theorem E_p_hasCell {D : Nat} {w : Bool} {a0 : Int32} {f : Nat → Int32} {g : Nat → Nat → Int32} {n2 : Nat → Nat → Int64} {p : Nat → Nat → Int32} {pa : Nat → Nat → Nat → Int32} {s : Nat → Nat → Int32} {sa : Nat → Nat → Nat → Int32} {sw : Bool} {rp : Value} {t : List jE} {z : Nat × Nat × Nat × (Nat → Int32)}  : K_p_hasCell D w a0 f g n2 p pa s sa sw rp t z = if a0 < 0 then (some (.inl (some (.int 0)), (jX f g n2 p pa s sa sw rp t, z))) else (jbO (K_p_cells D w f g n2 p pa s sa sw rp t z) (jk D 42 5 ([some (.ref (jpl w)), some (.int a0)], []) [.int a0])) := by
  cases w
  · refine (jev_blk 2 (pc' := if a0 < 0 then 8 else 2) (L' := ([some (.ref (jpl false)), some (.int a0)], [])) (S' := []) (h' := (jX f g n2 p pa s sa sw rp t, z)) rfl).trans (jev_ite.trans (jite_congr (fun _ => ?_) (fun _ => ?_)))
    · refine (jev_blk 1 (pc' := 9) (L' := ([some (.ref (jpl false)), some (.int a0)], [])) (S' := [.int 0]) (h' := (jX f g n2 p pa s sa sw rp t, z)) rfl).trans ?_
      exact jev_fin rfl
    · refine (jev_blk 2 (pc' := 4) (L' := ([some (.ref (jpl false)), some (.int a0)], [])) (S' := [.ref (jpl false), .int a0]) (h' := (jX f g n2 p pa s sa sw rp t, z)) rfl).trans ?_
      exact jev_callb (nx := 5) (rest := [.int a0]) rfl
  · refine (jev_blk 2 (pc' := if a0 < 0 then 8 else 2) (L' := ([some (.ref (jpl true)), some (.int a0)], [])) (S' := []) (h' := (jX f g n2 p pa s sa sw rp t, z)) rfl).trans (jev_ite.trans (jite_congr (fun _ => ?_) (fun _ => ?_)))
    · refine (jev_blk 1 (pc' := 9) (L' := ([some (.ref (jpl true)), some (.int a0)], [])) (S' := [.int 0]) (h' := (jX f g n2 p pa s sa sw rp t, z)) rfl).trans ?_
      exact jev_fin rfl
    · refine (jev_blk 2 (pc' := 4) (L' := ([some (.ref (jpl true)), some (.int a0)], [])) (S' := [.ref (jpl true), .int a0]) (h' := (jX f g n2 p pa s sa sw rp t, z)) rfl).trans ?_
      exact jev_callb (nx := 5) (rest := [.int a0]) rfl
set_option maxRecDepth 20000 in
theorem E_p_hasCell_5 {D : Nat} {w : Bool} {d1 : Option Value} {u0 : Int32} {u1 : Int32} {f : Nat → Int32} {g : Nat → Nat → Int32} {n2 : Nat → Nat → Int64} {p : Nat → Nat → Int32} {pa : Nat → Nat → Nat → Int32} {s : Nat → Nat → Int32} {sa : Nat → Nat → Nat → Int32} {sw : Bool} {rp : Value} {t : List jE} {z : Nat × Nat × Nat × (Nat → Int32)}  : jev D 42 5 ([some (.ref (jpl w)), d1], []) [.int u0, .int u1] (jX f g n2 p pa s sa sw rp t, z) = if u1 < u0 then (some (.inl (some (.int 1)), (jX f g n2 p pa s sa sw rp t, z))) else (some (.inl (some (.int 0)), (jX f g n2 p pa s sa sw rp t, z))) := by
  cases w
  · refine (jev_blk 1 (pc' := if u1 < u0 then 6 else 8) (L' := ([some (.ref (jpl false)), d1], [])) (S' := []) (h' := (jX f g n2 p pa s sa sw rp t, z)) rfl).trans (jev_ite.trans (jite_congr (fun _ => ?_) (fun _ => ?_)))
    · refine (jev_blk 2 (pc' := 9) (L' := ([some (.ref (jpl false)), d1], [])) (S' := [.int 1]) (h' := (jX f g n2 p pa s sa sw rp t, z)) rfl).trans ?_
      exact jev_fin rfl
    · refine (jev_blk 1 (pc' := 9) (L' := ([some (.ref (jpl false)), d1], [])) (S' := [.int 0]) (h' := (jX f g n2 p pa s sa sw rp t, z)) rfl).trans ?_
      exact jev_fin rfl
  · refine (jev_blk 1 (pc' := if u1 < u0 then 6 else 8) (L' := ([some (.ref (jpl true)), d1], [])) (S' := []) (h' := (jX f g n2 p pa s sa sw rp t, z)) rfl).trans (jev_ite.trans (jite_congr (fun _ => ?_) (fun _ => ?_)))
    · refine (jev_blk 2 (pc' := 9) (L' := ([some (.ref (jpl true)), d1], [])) (S' := [.int 1]) (h' := (jX f g n2 p pa s sa sw rp t, z)) rfl).trans ?_
      exact jev_fin rfl
    · refine (jev_blk 1 (pc' := 9) (L' := ([some (.ref (jpl true)), d1], [])) (S' := [.int 0]) (h' := (jX f g n2 p pa s sa sw rp t, z)) rfl).trans ?_
      exact jev_fin rfl
set_option maxRecDepth 20000 in
theorem E_p_hasScare {D : Nat} {w : Bool} {a0 : Int32} {f : Nat → Int32} {g : Nat → Nat → Int32} {n2 : Nat → Nat → Int64} {p : Nat → Nat → Int32} {pa : Nat → Nat → Nat → Int32} {s : Nat → Nat → Int32} {sa : Nat → Nat → Nat → Int32} {sw : Bool} {rp : Value} {t : List jE} {z : Nat × Nat × Nat × (Nat → Int32)}  : K_p_hasScare D w a0 f g n2 p pa s sa sw rp t z = if a0 < 0 then (some (.inl (some (.int 0)), (jX f g n2 p pa s sa sw rp t, z))) else (if a0 < (p (jq w) 3) then (some (.inl (some (.int 1)), (jX f g n2 p pa s sa sw rp t, z))) else (some (.inl (some (.int 0)), (jX f g n2 p pa s sa sw rp t, z)))) := by
  cases w
  · refine (jev_blk 2 (pc' := if a0 < 0 then 8 else 2) (L' := ([some (.ref (jpl false)), some (.int a0)], [])) (S' := []) (h' := (jX f g n2 p pa s sa sw rp t, z)) rfl).trans (jev_ite.trans (jite_congr (fun _ => ?_) (fun _ => ?_)))
    · refine (jev_blk 1 (pc' := 9) (L' := ([some (.ref (jpl false)), some (.int a0)], [])) (S' := [.int 0]) (h' := (jX f g n2 p pa s sa sw rp t, z)) rfl).trans ?_
      exact jev_fin rfl
    · refine (jev_blk 4 (pc' := if a0 < (p (jq false) 3) then 6 else 8) (L' := ([some (.ref (jpl false)), some (.int a0)], [])) (S' := []) (h' := (jX f g n2 p pa s sa sw rp t, z)) rfl).trans (jev_ite.trans (jite_congr (fun _ => ?_) (fun _ => ?_)))
      · refine (jev_blk 2 (pc' := 9) (L' := ([some (.ref (jpl false)), some (.int a0)], [])) (S' := [.int 1]) (h' := (jX f g n2 p pa s sa sw rp t, z)) rfl).trans ?_
        exact jev_fin rfl
      · refine (jev_blk 1 (pc' := 9) (L' := ([some (.ref (jpl false)), some (.int a0)], [])) (S' := [.int 0]) (h' := (jX f g n2 p pa s sa sw rp t, z)) rfl).trans ?_
        exact jev_fin rfl
  · refine (jev_blk 2 (pc' := if a0 < 0 then 8 else 2) (L' := ([some (.ref (jpl true)), some (.int a0)], [])) (S' := []) (h' := (jX f g n2 p pa s sa sw rp t, z)) rfl).trans (jev_ite.trans (jite_congr (fun _ => ?_) (fun _ => ?_)))
    · refine (jev_blk 1 (pc' := 9) (L' := ([some (.ref (jpl true)), some (.int a0)], [])) (S' := [.int 0]) (h' := (jX f g n2 p pa s sa sw rp t, z)) rfl).trans ?_
      exact jev_fin rfl
    · refine (jev_blk 4 (pc' := if a0 < (p (jq true) 3) then 6 else 8) (L' := ([some (.ref (jpl true)), some (.int a0)], [])) (S' := []) (h' := (jX f g n2 p pa s sa sw rp t, z)) rfl).trans (jev_ite.trans (jite_congr (fun _ => ?_) (fun _ => ?_)))
      · refine (jev_blk 2 (pc' := 9) (L' := ([some (.ref (jpl true)), some (.int a0)], [])) (S' := [.int 1]) (h' := (jX f g n2 p pa s sa sw rp t, z)) rfl).trans ?_
        exact jev_fin rfl
      · refine (jev_blk 1 (pc' := 9) (L' := ([some (.ref (jpl true)), some (.int a0)], [])) (S' := [.int 0]) (h' := (jX f g n2 p pa s sa sw rp t, z)) rfl).trans ?_
        exact jev_fin rfl
set_option maxRecDepth 20000 in
theorem E_p_windOf {D : Nat} {w : Bool} {a0 : Int32} {f : Nat → Int32} {g : Nat → Nat → Int32} {n2 : Nat → Nat → Int64} {p : Nat → Nat → Int32} {pa : Nat → Nat → Nat → Int32} {s : Nat → Nat → Int32} {sa : Nat → Nat → Nat → Int32} {sw : Bool} {rp : Value} {t : List jE} {z : Nat × Nat × Nat × (Nat → Int32)}  : K_p_windOf D w a0 f g n2 p pa s sa sw rp t z = if a0 < 0 then (some (.inl (some (.int 0)), (jX f g n2 p pa s sa sw rp t, z))) else (if a0 < (p (jq w) 5) then (if jout a0 14 then none else (some (.inl (some (.int (pa (jq w) 7 a0.toNatClampNeg))), (jX f g n2 p pa s sa sw rp t, z)))) else (some (.inl (some (.int 0)), (jX f g n2 p pa s sa sw rp t, z)))) := by
  cases w
  · refine (jev_blk 2 (pc' := if a0 < 0 then 11 else 2) (L' := ([some (.ref (jpl false)), some (.int a0)], [])) (S' := []) (h' := (jX f g n2 p pa s sa sw rp t, z)) rfl).trans (jev_ite.trans (jite_congr (fun _ => ?_) (fun _ => ?_)))
    · refine (jev_blk 1 (pc' := 12) (L' := ([some (.ref (jpl false)), some (.int a0)], [])) (S' := [.int 0]) (h' := (jX f g n2 p pa s sa sw rp t, z)) rfl).trans ?_
      exact jev_fin rfl
    · refine (jev_blk 4 (pc' := if a0 < (p (jq false) 5) then 6 else 11) (L' := ([some (.ref (jpl false)), some (.int a0)], [])) (S' := []) (h' := (jX f g n2 p pa s sa sw rp t, z)) rfl).trans (jev_ite.trans (jite_congr (fun _ => ?_) (fun _ => ?_)))
      · refine (jev_blk 3 (pc' := 9) (L' := ([some (.ref (jpl false)), some (.int a0)], [])) (S' := [.int a0, .ref ((jpl false) + 8)]) (h' := (jX f g n2 p pa s sa sw rp t, z)) rfl).trans ?_
        refine (jev_grd (q := jout a0 14) (pc' := 10) (L' := ([some (.ref (jpl false)), some (.int a0)], [])) (S' := [.int (pa (jq false) 7 a0.toNatClampNeg)]) (h' := (jX f g n2 p pa s sa sw rp t, z)) rfl).trans (jite_congr (fun _ => rfl) (fun _ => ?_))
        refine (jev_blk 1 (pc' := 12) (L' := ([some (.ref (jpl false)), some (.int a0)], [])) (S' := [.int (pa (jq false) 7 a0.toNatClampNeg)]) (h' := (jX f g n2 p pa s sa sw rp t, z)) rfl).trans ?_
        exact jev_fin rfl
      · refine (jev_blk 1 (pc' := 12) (L' := ([some (.ref (jpl false)), some (.int a0)], [])) (S' := [.int 0]) (h' := (jX f g n2 p pa s sa sw rp t, z)) rfl).trans ?_
        exact jev_fin rfl
  · refine (jev_blk 2 (pc' := if a0 < 0 then 11 else 2) (L' := ([some (.ref (jpl true)), some (.int a0)], [])) (S' := []) (h' := (jX f g n2 p pa s sa sw rp t, z)) rfl).trans (jev_ite.trans (jite_congr (fun _ => ?_) (fun _ => ?_)))
    · refine (jev_blk 1 (pc' := 12) (L' := ([some (.ref (jpl true)), some (.int a0)], [])) (S' := [.int 0]) (h' := (jX f g n2 p pa s sa sw rp t, z)) rfl).trans ?_
      exact jev_fin rfl
    · refine (jev_blk 4 (pc' := if a0 < (p (jq true) 5) then 6 else 11) (L' := ([some (.ref (jpl true)), some (.int a0)], [])) (S' := []) (h' := (jX f g n2 p pa s sa sw rp t, z)) rfl).trans (jev_ite.trans (jite_congr (fun _ => ?_) (fun _ => ?_)))
      · refine (jev_blk 3 (pc' := 9) (L' := ([some (.ref (jpl true)), some (.int a0)], [])) (S' := [.int a0, .ref ((jpl true) + 8)]) (h' := (jX f g n2 p pa s sa sw rp t, z)) rfl).trans ?_
        refine (jev_grd (q := jout a0 14) (pc' := 10) (L' := ([some (.ref (jpl true)), some (.int a0)], [])) (S' := [.int (pa (jq true) 7 a0.toNatClampNeg)]) (h' := (jX f g n2 p pa s sa sw rp t, z)) rfl).trans (jite_congr (fun _ => rfl) (fun _ => ?_))
        refine (jev_blk 1 (pc' := 12) (L' := ([some (.ref (jpl true)), some (.int a0)], [])) (S' := [.int (pa (jq true) 7 a0.toNatClampNeg)]) (h' := (jX f g n2 p pa s sa sw rp t, z)) rfl).trans ?_
        exact jev_fin rfl
      · refine (jev_blk 1 (pc' := 12) (L' := ([some (.ref (jpl true)), some (.int a0)], [])) (S' := [.int 0]) (h' := (jX f g n2 p pa s sa sw rp t, z)) rfl).trans ?_
        exact jev_fin rfl
set_option maxRecDepth 20000 in
theorem E_p_find {D : Nat} {w : Bool} {a0 : Int32} {f : Nat → Int32} {g : Nat → Nat → Int32} {n2 : Nat → Nat → Int64} {p : Nat → Nat → Int32} {pa : Nat → Nat → Nat → Int32} {s : Nat → Nat → Int32} {sa : Nat → Nat → Nat → Int32} {sw : Bool} {rp : Value} {t : List jE} {z : Nat × Nat × Nat × (Nat → Int32)}  : K_p_find D w a0 f g n2 p pa s sa sw rp t z = K_p_find_2 D w a0 0 f g n2 p pa s sa sw rp t z := by
  cases w
  · exact jev_blk 2 rfl
  · exact jev_blk 2 rfl
set_option maxRecDepth 20000 in
theorem L_p_find_2 {D : Nat} {w : Bool} {x1 : Int32} {x2 : Int32} {f : Nat → Int32} {g : Nat → Nat → Int32} {n2 : Nat → Nat → Int64} {p : Nat → Nat → Int32} {pa : Nat → Nat → Nat → Int32} {s : Nat → Nat → Int32} {sa : Nat → Nat → Nat → Int32} {sw : Bool} {rp : Value} {t : List jE} {z : Nat × Nat × Nat × (Nat → Int32)}  : K_p_find_2 D w x1 x2 f g n2 p pa s sa sw rp t z = if x2 < (p (jq w) 3) then (if jout x2 6 then none else (if (pa (jq w) 1 x2.toNatClampNeg) = x1 then (some (.inl (some (.int x2)), (jX f g n2 p pa s sa sw rp t, z))) else (K_p_find_2 D w x1 (x2 + 1) f g n2 p pa s sa sw rp t z))) else (some (.inl (some (.int (-1))), (jX f g n2 p pa s sa sw rp t, z))) := by
  cases w
  · refine (jev_blk 4 (pc' := if x2 < (p (jq false) 3) then 6 else 16) (L' := ([some (.ref (jpl false)), some (.int x1), some (.int x2)], [])) (S' := []) (h' := (jX f g n2 p pa s sa sw rp t, z)) rfl).trans (jev_ite.trans (jite_congr (fun _ => ?_) (fun _ => ?_)))
    · refine (jev_blk 3 (pc' := 9) (L' := ([some (.ref (jpl false)), some (.int x1), some (.int x2)], [])) (S' := [.int x2, .ref ((jpl false) + 2)]) (h' := (jX f g n2 p pa s sa sw rp t, z)) rfl).trans ?_
      refine (jev_grd (q := jout x2 6) (pc' := 10) (L' := ([some (.ref (jpl false)), some (.int x1), some (.int x2)], [])) (S' := [.int (pa (jq false) 1 x2.toNatClampNeg)]) (h' := (jX f g n2 p pa s sa sw rp t, z)) rfl).trans (jite_congr (fun _ => rfl) (fun _ => ?_))
      refine (jev_blk 2 (pc' := if (pa (jq false) 1 x2.toNatClampNeg) = x1 then 12 else 14) (L' := ([some (.ref (jpl false)), some (.int x1), some (.int x2)], [])) (S' := []) (h' := (jX f g n2 p pa s sa sw rp t, z)) rfl).trans (jev_ite.trans (jite_congr (fun _ => ?_) (fun _ => ?_)))
      · refine (jev_blk 1 (pc' := 13) (L' := ([some (.ref (jpl false)), some (.int x1), some (.int x2)], [])) (S' := [.int x2]) (h' := (jX f g n2 p pa s sa sw rp t, z)) rfl).trans ?_
        exact jev_fin rfl
      · exact jev_blk 2 rfl
    · refine (jev_blk 1 (pc' := 17) (L' := ([some (.ref (jpl false)), some (.int x1), some (.int x2)], [])) (S' := [.int (-1)]) (h' := (jX f g n2 p pa s sa sw rp t, z)) rfl).trans ?_
      exact jev_fin rfl
  · refine (jev_blk 4 (pc' := if x2 < (p (jq true) 3) then 6 else 16) (L' := ([some (.ref (jpl true)), some (.int x1), some (.int x2)], [])) (S' := []) (h' := (jX f g n2 p pa s sa sw rp t, z)) rfl).trans (jev_ite.trans (jite_congr (fun _ => ?_) (fun _ => ?_)))
    · refine (jev_blk 3 (pc' := 9) (L' := ([some (.ref (jpl true)), some (.int x1), some (.int x2)], [])) (S' := [.int x2, .ref ((jpl true) + 2)]) (h' := (jX f g n2 p pa s sa sw rp t, z)) rfl).trans ?_
      refine (jev_grd (q := jout x2 6) (pc' := 10) (L' := ([some (.ref (jpl true)), some (.int x1), some (.int x2)], [])) (S' := [.int (pa (jq true) 1 x2.toNatClampNeg)]) (h' := (jX f g n2 p pa s sa sw rp t, z)) rfl).trans (jite_congr (fun _ => rfl) (fun _ => ?_))
      refine (jev_blk 2 (pc' := if (pa (jq true) 1 x2.toNatClampNeg) = x1 then 12 else 14) (L' := ([some (.ref (jpl true)), some (.int x1), some (.int x2)], [])) (S' := []) (h' := (jX f g n2 p pa s sa sw rp t, z)) rfl).trans (jev_ite.trans (jite_congr (fun _ => ?_) (fun _ => ?_)))
      · refine (jev_blk 1 (pc' := 13) (L' := ([some (.ref (jpl true)), some (.int x1), some (.int x2)], [])) (S' := [.int x2]) (h' := (jX f g n2 p pa s sa sw rp t, z)) rfl).trans ?_
        exact jev_fin rfl
      · exact jev_blk 2 rfl
    · refine (jev_blk 1 (pc' := 17) (L' := ([some (.ref (jpl true)), some (.int x1), some (.int x2)], [])) (S' := [.int (-1)]) (h' := (jX f g n2 p pa s sa sw rp t, z)) rfl).trans ?_
      exact jev_fin rfl
