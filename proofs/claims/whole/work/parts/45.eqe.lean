-- EQUATIONS: one a block; E_ unfolds, L_ a loop's head
set_option maxRecDepth 20000 in
theorem E_h_pass_48 {D : Nat} {j : Nat} {x2 : Int32} {d3 : Option Value} {d4 : Option Value} {u0 : Int32} {f : Nat → Int32} {g : Nat → Nat → Int32} {n2 : Nat → Nat → Int64} {p : Nat → Nat → Int32} {pa : Nat → Nat → Nat → Int32} {s : Nat → Nat → Int32} {sa : Nat → Nat → Nat → Int32} {sw : Bool} {rp : Value} {t : List jE} {z : Nat × Nat × Nat × (Nat → Int32)} (hj : j < 3) : jev D 16 48 ([some (.ref 43), some (.ref (49 + 6 * j)), some (.int x2), d3, d4], []) [.int u0] (jX f g n2 p pa s sa sw rp t, z) = if u0 < 0 then (K_h_pass_64 D j x2 u0 d4 f g n2 p pa s sa sw rp t z) else (if ((x2 >>> (u0 &&& 31)) &&& 1) = 0 then (K_h_pass_64 D j x2 u0 d4 f g n2 p pa s sa sw rp t z) else (K_h_pass_85 D j x2 (some (.int u0)) d4 f g n2 p pa (jup s j (jup (s j) 5 (((s j 5) + 1)))) sa sw rp t z)) := by
  rcases jlt3 hj with rfl | rfl | rfl <;> cases sw
  · refine (jev_blk 3 (pc' := if u0 < 0 then 64 else 51) (L' := ([some (.ref 43), some (.ref (49 + 6 * 0)), some (.int x2), some (.int u0), d4], [])) (S' := []) (h' := (jX f g n2 p pa s sa false rp t, z)) rfl).trans (jev_ite.trans (jite_congr (fun _ => ?_) (fun _ => ?_)))
    · rfl
    · refine (jev_blk 6 (pc' := if ((x2 >>> (u0 &&& 31)) &&& 1) = 0 then 64 else 57) (L' := ([some (.ref 43), some (.ref (49 + 6 * 0)), some (.int x2), some (.int u0), d4], [])) (S' := []) (h' := (jX f g n2 p pa s sa false rp t, z)) rfl).trans (jev_ite.trans (jite_congr (fun _ => ?_) (fun _ => ?_)))
      · rfl
      · exact jev_blk 7 rfl
  · refine (jev_blk 3 (pc' := if u0 < 0 then 64 else 51) (L' := ([some (.ref 43), some (.ref (49 + 6 * 0)), some (.int x2), some (.int u0), d4], [])) (S' := []) (h' := (jX f g n2 p pa s sa true rp t, z)) rfl).trans (jev_ite.trans (jite_congr (fun _ => ?_) (fun _ => ?_)))
    · rfl
    · refine (jev_blk 6 (pc' := if ((x2 >>> (u0 &&& 31)) &&& 1) = 0 then 64 else 57) (L' := ([some (.ref 43), some (.ref (49 + 6 * 0)), some (.int x2), some (.int u0), d4], [])) (S' := []) (h' := (jX f g n2 p pa s sa true rp t, z)) rfl).trans (jev_ite.trans (jite_congr (fun _ => ?_) (fun _ => ?_)))
      · rfl
      · exact jev_blk 7 rfl
  · refine (jev_blk 3 (pc' := if u0 < 0 then 64 else 51) (L' := ([some (.ref 43), some (.ref (49 + 6 * 1)), some (.int x2), some (.int u0), d4], [])) (S' := []) (h' := (jX f g n2 p pa s sa false rp t, z)) rfl).trans (jev_ite.trans (jite_congr (fun _ => ?_) (fun _ => ?_)))
    · rfl
    · refine (jev_blk 6 (pc' := if ((x2 >>> (u0 &&& 31)) &&& 1) = 0 then 64 else 57) (L' := ([some (.ref 43), some (.ref (49 + 6 * 1)), some (.int x2), some (.int u0), d4], [])) (S' := []) (h' := (jX f g n2 p pa s sa false rp t, z)) rfl).trans (jev_ite.trans (jite_congr (fun _ => ?_) (fun _ => ?_)))
      · rfl
      · exact jev_blk 7 rfl
  · refine (jev_blk 3 (pc' := if u0 < 0 then 64 else 51) (L' := ([some (.ref 43), some (.ref (49 + 6 * 1)), some (.int x2), some (.int u0), d4], [])) (S' := []) (h' := (jX f g n2 p pa s sa true rp t, z)) rfl).trans (jev_ite.trans (jite_congr (fun _ => ?_) (fun _ => ?_)))
    · rfl
    · refine (jev_blk 6 (pc' := if ((x2 >>> (u0 &&& 31)) &&& 1) = 0 then 64 else 57) (L' := ([some (.ref 43), some (.ref (49 + 6 * 1)), some (.int x2), some (.int u0), d4], [])) (S' := []) (h' := (jX f g n2 p pa s sa true rp t, z)) rfl).trans (jev_ite.trans (jite_congr (fun _ => ?_) (fun _ => ?_)))
      · rfl
      · exact jev_blk 7 rfl
  · refine (jev_blk 3 (pc' := if u0 < 0 then 64 else 51) (L' := ([some (.ref 43), some (.ref (49 + 6 * 2)), some (.int x2), some (.int u0), d4], [])) (S' := []) (h' := (jX f g n2 p pa s sa false rp t, z)) rfl).trans (jev_ite.trans (jite_congr (fun _ => ?_) (fun _ => ?_)))
    · rfl
    · refine (jev_blk 6 (pc' := if ((x2 >>> (u0 &&& 31)) &&& 1) = 0 then 64 else 57) (L' := ([some (.ref 43), some (.ref (49 + 6 * 2)), some (.int x2), some (.int u0), d4], [])) (S' := []) (h' := (jX f g n2 p pa s sa false rp t, z)) rfl).trans (jev_ite.trans (jite_congr (fun _ => ?_) (fun _ => ?_)))
      · rfl
      · exact jev_blk 7 rfl
  · refine (jev_blk 3 (pc' := if u0 < 0 then 64 else 51) (L' := ([some (.ref 43), some (.ref (49 + 6 * 2)), some (.int x2), some (.int u0), d4], [])) (S' := []) (h' := (jX f g n2 p pa s sa true rp t, z)) rfl).trans (jev_ite.trans (jite_congr (fun _ => ?_) (fun _ => ?_)))
    · rfl
    · refine (jev_blk 6 (pc' := if ((x2 >>> (u0 &&& 31)) &&& 1) = 0 then 64 else 57) (L' := ([some (.ref 43), some (.ref (49 + 6 * 2)), some (.int x2), some (.int u0), d4], [])) (S' := []) (h' := (jX f g n2 p pa s sa true rp t, z)) rfl).trans (jev_ite.trans (jite_congr (fun _ => ?_) (fun _ => ?_)))
      · rfl
      · exact jev_blk 7 rfl
set_option maxRecDepth 20000 in
theorem E_h_pass_64 {D : Nat} {j : Nat} {x2 : Int32} {x3 : Int32} {d4 : Option Value} {f : Nat → Int32} {g : Nat → Nat → Int32} {n2 : Nat → Nat → Int64} {p : Nat → Nat → Int32} {pa : Nat → Nat → Nat → Int32} {s : Nat → Nat → Int32} {sa : Nat → Nat → Nat → Int32} {sw : Bool} {rp : Value} {t : List jE} {z : Nat × Nat × Nat × (Nat → Int32)} (hj : j < 3) : K_h_pass_64 D j x2 x3 d4 f g n2 p pa s sa sw rp t z = if x3 < 0 then (K_h_pass_85 D j x2 (some (.int x3)) d4 f g n2 p pa s sa sw rp t z) else (jbO (K_h_mealIn D j x3 f g n2 p pa s sa sw rp t z) (jk D 16 70 ([some (.ref 43), some (.ref (49 + 6 * j)), some (.int x2), some (.int x3), d4], []) [])) := by
  rcases jlt3 hj with rfl | rfl | rfl <;> cases sw
  · refine (jev_blk 2 (pc' := if x3 < 0 then 85 else 66) (L' := ([some (.ref 43), some (.ref (49 + 6 * 0)), some (.int x2), some (.int x3), d4], [])) (S' := []) (h' := (jX f g n2 p pa s sa false rp t, z)) rfl).trans (jev_ite.trans (jite_congr (fun _ => ?_) (fun _ => ?_)))
    · rfl
    · refine (jev_blk 3 (pc' := 69) (L' := ([some (.ref 43), some (.ref (49 + 6 * 0)), some (.int x2), some (.int x3), d4], [])) (S' := [.int x3, .ref (49 + 6 * 0), .ref 43]) (h' := (jX f g n2 p pa s sa false rp t, z)) rfl).trans ?_
      exact jev_callb (nx := 70) (rest := []) rfl
  · refine (jev_blk 2 (pc' := if x3 < 0 then 85 else 66) (L' := ([some (.ref 43), some (.ref (49 + 6 * 0)), some (.int x2), some (.int x3), d4], [])) (S' := []) (h' := (jX f g n2 p pa s sa true rp t, z)) rfl).trans (jev_ite.trans (jite_congr (fun _ => ?_) (fun _ => ?_)))
    · rfl
    · refine (jev_blk 3 (pc' := 69) (L' := ([some (.ref 43), some (.ref (49 + 6 * 0)), some (.int x2), some (.int x3), d4], [])) (S' := [.int x3, .ref (49 + 6 * 0), .ref 43]) (h' := (jX f g n2 p pa s sa true rp t, z)) rfl).trans ?_
      exact jev_callb (nx := 70) (rest := []) rfl
  · refine (jev_blk 2 (pc' := if x3 < 0 then 85 else 66) (L' := ([some (.ref 43), some (.ref (49 + 6 * 1)), some (.int x2), some (.int x3), d4], [])) (S' := []) (h' := (jX f g n2 p pa s sa false rp t, z)) rfl).trans (jev_ite.trans (jite_congr (fun _ => ?_) (fun _ => ?_)))
    · rfl
    · refine (jev_blk 3 (pc' := 69) (L' := ([some (.ref 43), some (.ref (49 + 6 * 1)), some (.int x2), some (.int x3), d4], [])) (S' := [.int x3, .ref (49 + 6 * 1), .ref 43]) (h' := (jX f g n2 p pa s sa false rp t, z)) rfl).trans ?_
      exact jev_callb (nx := 70) (rest := []) rfl
  · refine (jev_blk 2 (pc' := if x3 < 0 then 85 else 66) (L' := ([some (.ref 43), some (.ref (49 + 6 * 1)), some (.int x2), some (.int x3), d4], [])) (S' := []) (h' := (jX f g n2 p pa s sa true rp t, z)) rfl).trans (jev_ite.trans (jite_congr (fun _ => ?_) (fun _ => ?_)))
    · rfl
    · refine (jev_blk 3 (pc' := 69) (L' := ([some (.ref 43), some (.ref (49 + 6 * 1)), some (.int x2), some (.int x3), d4], [])) (S' := [.int x3, .ref (49 + 6 * 1), .ref 43]) (h' := (jX f g n2 p pa s sa true rp t, z)) rfl).trans ?_
      exact jev_callb (nx := 70) (rest := []) rfl
  · refine (jev_blk 2 (pc' := if x3 < 0 then 85 else 66) (L' := ([some (.ref 43), some (.ref (49 + 6 * 2)), some (.int x2), some (.int x3), d4], [])) (S' := []) (h' := (jX f g n2 p pa s sa false rp t, z)) rfl).trans (jev_ite.trans (jite_congr (fun _ => ?_) (fun _ => ?_)))
    · rfl
    · refine (jev_blk 3 (pc' := 69) (L' := ([some (.ref 43), some (.ref (49 + 6 * 2)), some (.int x2), some (.int x3), d4], [])) (S' := [.int x3, .ref (49 + 6 * 2), .ref 43]) (h' := (jX f g n2 p pa s sa false rp t, z)) rfl).trans ?_
      exact jev_callb (nx := 70) (rest := []) rfl
  · refine (jev_blk 2 (pc' := if x3 < 0 then 85 else 66) (L' := ([some (.ref 43), some (.ref (49 + 6 * 2)), some (.int x2), some (.int x3), d4], [])) (S' := []) (h' := (jX f g n2 p pa s sa true rp t, z)) rfl).trans (jev_ite.trans (jite_congr (fun _ => ?_) (fun _ => ?_)))
    · rfl
    · refine (jev_blk 3 (pc' := 69) (L' := ([some (.ref 43), some (.ref (49 + 6 * 2)), some (.int x2), some (.int x3), d4], [])) (S' := [.int x3, .ref (49 + 6 * 2), .ref 43]) (h' := (jX f g n2 p pa s sa true rp t, z)) rfl).trans ?_
      exact jev_callb (nx := 70) (rest := []) rfl
set_option maxRecDepth 20000 in
theorem E_h_pass_85 {D : Nat} {j : Nat} {x2 : Int32} {d3 : Option Value} {d4 : Option Value} {f : Nat → Int32} {g : Nat → Nat → Int32} {n2 : Nat → Nat → Int64} {p : Nat → Nat → Int32} {pa : Nat → Nat → Nat → Int32} {s : Nat → Nat → Int32} {sa : Nat → Nat → Nat → Int32} {sw : Bool} {rp : Value} {t : List jE} {z : Nat × Nat × Nat × (Nat → Int32)} (hj : j < 3) : K_h_pass_85 D j x2 d3 d4 f g n2 p pa s sa sw rp t z = if jout (s j 1) 12 then none else (jbO (K_s_tick D j f g n2 p pa s (jup sa j (jup (sa j) 1 ((jup (sa j 1) ((s j 1).toNatClampNeg) x2)))) sw rp t z) (jk D 16 93 ([some (.ref 43), some (.ref (49 + 6 * j)), some (.int x2), d3, d4], []) [])) := by
  rcases jlt3 hj with rfl | rfl | rfl <;> cases sw
  · refine (jev_blk 5 (pc' := 90) (L' := ([some (.ref 43), some (.ref (49 + 6 * 0)), some (.int x2), d3, d4], [])) (S' := [.int x2, .int (s 0 1), .ref (50 + 6 * 0 + 1)]) (h' := (jX f g n2 p pa s sa false rp t, z)) rfl).trans ?_
    refine (jev_grd (q := jout (s 0 1) 12) (pc' := 91) (L' := ([some (.ref 43), some (.ref (49 + 6 * 0)), some (.int x2), d3, d4], [])) (S' := []) (h' := (jX f g n2 p pa s (jup sa 0 (jup (sa 0) 1 ((jup (sa 0 1) ((s 0 1).toNatClampNeg) x2)))) false rp t, z)) rfl).trans (jite_congr (fun _ => rfl) (fun _ => ?_))
    refine (jev_blk 1 (pc' := 92) (L' := ([some (.ref 43), some (.ref (49 + 6 * 0)), some (.int x2), d3, d4], [])) (S' := [.ref (49 + 6 * 0)]) (h' := (jX f g n2 p pa s (jup sa 0 (jup (sa 0) 1 ((jup (sa 0 1) ((s 0 1).toNatClampNeg) x2)))) false rp t, z)) rfl).trans ?_
    exact jev_callb (nx := 93) (rest := []) rfl
  · refine (jev_blk 5 (pc' := 90) (L' := ([some (.ref 43), some (.ref (49 + 6 * 0)), some (.int x2), d3, d4], [])) (S' := [.int x2, .int (s 0 1), .ref (50 + 6 * 0 + 1)]) (h' := (jX f g n2 p pa s sa true rp t, z)) rfl).trans ?_
    refine (jev_grd (q := jout (s 0 1) 12) (pc' := 91) (L' := ([some (.ref 43), some (.ref (49 + 6 * 0)), some (.int x2), d3, d4], [])) (S' := []) (h' := (jX f g n2 p pa s (jup sa 0 (jup (sa 0) 1 ((jup (sa 0 1) ((s 0 1).toNatClampNeg) x2)))) true rp t, z)) rfl).trans (jite_congr (fun _ => rfl) (fun _ => ?_))
    refine (jev_blk 1 (pc' := 92) (L' := ([some (.ref 43), some (.ref (49 + 6 * 0)), some (.int x2), d3, d4], [])) (S' := [.ref (49 + 6 * 0)]) (h' := (jX f g n2 p pa s (jup sa 0 (jup (sa 0) 1 ((jup (sa 0 1) ((s 0 1).toNatClampNeg) x2)))) true rp t, z)) rfl).trans ?_
    exact jev_callb (nx := 93) (rest := []) rfl
  · refine (jev_blk 5 (pc' := 90) (L' := ([some (.ref 43), some (.ref (49 + 6 * 1)), some (.int x2), d3, d4], [])) (S' := [.int x2, .int (s 1 1), .ref (50 + 6 * 1 + 1)]) (h' := (jX f g n2 p pa s sa false rp t, z)) rfl).trans ?_
    refine (jev_grd (q := jout (s 1 1) 12) (pc' := 91) (L' := ([some (.ref 43), some (.ref (49 + 6 * 1)), some (.int x2), d3, d4], [])) (S' := []) (h' := (jX f g n2 p pa s (jup sa 1 (jup (sa 1) 1 ((jup (sa 1 1) ((s 1 1).toNatClampNeg) x2)))) false rp t, z)) rfl).trans (jite_congr (fun _ => rfl) (fun _ => ?_))
    refine (jev_blk 1 (pc' := 92) (L' := ([some (.ref 43), some (.ref (49 + 6 * 1)), some (.int x2), d3, d4], [])) (S' := [.ref (49 + 6 * 1)]) (h' := (jX f g n2 p pa s (jup sa 1 (jup (sa 1) 1 ((jup (sa 1 1) ((s 1 1).toNatClampNeg) x2)))) false rp t, z)) rfl).trans ?_
    exact jev_callb (nx := 93) (rest := []) rfl
  · refine (jev_blk 5 (pc' := 90) (L' := ([some (.ref 43), some (.ref (49 + 6 * 1)), some (.int x2), d3, d4], [])) (S' := [.int x2, .int (s 1 1), .ref (50 + 6 * 1 + 1)]) (h' := (jX f g n2 p pa s sa true rp t, z)) rfl).trans ?_
    refine (jev_grd (q := jout (s 1 1) 12) (pc' := 91) (L' := ([some (.ref 43), some (.ref (49 + 6 * 1)), some (.int x2), d3, d4], [])) (S' := []) (h' := (jX f g n2 p pa s (jup sa 1 (jup (sa 1) 1 ((jup (sa 1 1) ((s 1 1).toNatClampNeg) x2)))) true rp t, z)) rfl).trans (jite_congr (fun _ => rfl) (fun _ => ?_))
    refine (jev_blk 1 (pc' := 92) (L' := ([some (.ref 43), some (.ref (49 + 6 * 1)), some (.int x2), d3, d4], [])) (S' := [.ref (49 + 6 * 1)]) (h' := (jX f g n2 p pa s (jup sa 1 (jup (sa 1) 1 ((jup (sa 1 1) ((s 1 1).toNatClampNeg) x2)))) true rp t, z)) rfl).trans ?_
    exact jev_callb (nx := 93) (rest := []) rfl
  · refine (jev_blk 5 (pc' := 90) (L' := ([some (.ref 43), some (.ref (49 + 6 * 2)), some (.int x2), d3, d4], [])) (S' := [.int x2, .int (s 2 1), .ref (50 + 6 * 2 + 1)]) (h' := (jX f g n2 p pa s sa false rp t, z)) rfl).trans ?_
    refine (jev_grd (q := jout (s 2 1) 12) (pc' := 91) (L' := ([some (.ref 43), some (.ref (49 + 6 * 2)), some (.int x2), d3, d4], [])) (S' := []) (h' := (jX f g n2 p pa s (jup sa 2 (jup (sa 2) 1 ((jup (sa 2 1) ((s 2 1).toNatClampNeg) x2)))) false rp t, z)) rfl).trans (jite_congr (fun _ => rfl) (fun _ => ?_))
    refine (jev_blk 1 (pc' := 92) (L' := ([some (.ref 43), some (.ref (49 + 6 * 2)), some (.int x2), d3, d4], [])) (S' := [.ref (49 + 6 * 2)]) (h' := (jX f g n2 p pa s (jup sa 2 (jup (sa 2) 1 ((jup (sa 2 1) ((s 2 1).toNatClampNeg) x2)))) false rp t, z)) rfl).trans ?_
    exact jev_callb (nx := 93) (rest := []) rfl
  · refine (jev_blk 5 (pc' := 90) (L' := ([some (.ref 43), some (.ref (49 + 6 * 2)), some (.int x2), d3, d4], [])) (S' := [.int x2, .int (s 2 1), .ref (50 + 6 * 2 + 1)]) (h' := (jX f g n2 p pa s sa true rp t, z)) rfl).trans ?_
    refine (jev_grd (q := jout (s 2 1) 12) (pc' := 91) (L' := ([some (.ref 43), some (.ref (49 + 6 * 2)), some (.int x2), d3, d4], [])) (S' := []) (h' := (jX f g n2 p pa s (jup sa 2 (jup (sa 2) 1 ((jup (sa 2 1) ((s 2 1).toNatClampNeg) x2)))) true rp t, z)) rfl).trans (jite_congr (fun _ => rfl) (fun _ => ?_))
    refine (jev_blk 1 (pc' := 92) (L' := ([some (.ref 43), some (.ref (49 + 6 * 2)), some (.int x2), d3, d4], [])) (S' := [.ref (49 + 6 * 2)]) (h' := (jX f g n2 p pa s (jup sa 2 (jup (sa 2) 1 ((jup (sa 2 1) ((s 2 1).toNatClampNeg) x2)))) true rp t, z)) rfl).trans ?_
    exact jev_callb (nx := 93) (rest := []) rfl
set_option maxRecDepth 20000 in
theorem E_h_pass_24 {D : Nat} {j : Nat} {x2 : Int32} {x3 : Int32} {x4 : Int32} {u0 : Int32} {u1 : Int32} {f : Nat → Int32} {g : Nat → Nat → Int32} {n2 : Nat → Nat → Int64} {p : Nat → Nat → Int32} {pa : Nat → Nat → Nat → Int32} {s : Nat → Nat → Int32} {sa : Nat → Nat → Nat → Int32} {sw : Bool} {rp : Value} {t : List jE} {z : Nat × Nat × Nat × (Nat → Int32)} (hj : j < 3) : jev D 16 24 ([some (.ref 43), some (.ref (49 + 6 * j)), some (.int x2), some (.int x3), some (.int x4)], []) [.int u0, .int u1, .ref (49 + 6 * j)] (jX f g n2 p pa s sa sw rp t, z) = if jout x3 6 then none else (if jout x3 6 then none else (K_h_pass_34 D j x2 x3 x4 f g n2 p pa (jup s j (jup (s j) 4 ((u1 + u0)))) (jup sa j (jup (sa j) 4 ((jup (sa j 4) (x3.toNatClampNeg) ((sa j 4 x3.toNatClampNeg) + 1))))) sw rp t z)) := by
  rcases jlt3 hj with rfl | rfl | rfl <;> cases sw
  · refine (jev_blk 6 (pc' := 30) (L' := ([some (.ref 43), some (.ref (49 + 6 * 0)), some (.int x2), some (.int x3), some (.int x4)], [])) (S' := [.int x3, .ref (50 + 6 * 0 + 4), .int x3, .ref (50 + 6 * 0 + 4)]) (h' := (jX f g n2 p pa (jup s 0 (jup (s 0) 4 ((u1 + u0)))) sa false rp t, z)) rfl).trans ?_
    refine (jev_grd (q := jout x3 6) (pc' := 31) (L' := ([some (.ref 43), some (.ref (49 + 6 * 0)), some (.int x2), some (.int x3), some (.int x4)], [])) (S' := [.int (sa 0 4 x3.toNatClampNeg), .int x3, .ref (50 + 6 * 0 + 4)]) (h' := (jX f g n2 p pa (jup s 0 (jup (s 0) 4 ((u1 + u0)))) sa false rp t, z)) rfl).trans (jite_congr (fun _ => rfl) (fun _ => ?_))
    refine (jev_blk 2 (pc' := 33) (L' := ([some (.ref 43), some (.ref (49 + 6 * 0)), some (.int x2), some (.int x3), some (.int x4)], [])) (S' := [.int ((sa 0 4 x3.toNatClampNeg) + 1), .int x3, .ref (50 + 6 * 0 + 4)]) (h' := (jX f g n2 p pa (jup s 0 (jup (s 0) 4 ((u1 + u0)))) sa false rp t, z)) rfl).trans ?_
    refine (jev_grd (q := jout x3 6) (pc' := 34) (L' := ([some (.ref 43), some (.ref (49 + 6 * 0)), some (.int x2), some (.int x3), some (.int x4)], [])) (S' := []) (h' := (jX f g n2 p pa (jup s 0 (jup (s 0) 4 ((u1 + u0)))) (jup sa 0 (jup (sa 0) 4 ((jup (sa 0 4) (x3.toNatClampNeg) ((sa 0 4 x3.toNatClampNeg) + 1))))) false rp t, z)) rfl).trans (jite_congr (fun _ => rfl) (fun _ => ?_))
    rfl
  · refine (jev_blk 6 (pc' := 30) (L' := ([some (.ref 43), some (.ref (49 + 6 * 0)), some (.int x2), some (.int x3), some (.int x4)], [])) (S' := [.int x3, .ref (50 + 6 * 0 + 4), .int x3, .ref (50 + 6 * 0 + 4)]) (h' := (jX f g n2 p pa (jup s 0 (jup (s 0) 4 ((u1 + u0)))) sa true rp t, z)) rfl).trans ?_
    refine (jev_grd (q := jout x3 6) (pc' := 31) (L' := ([some (.ref 43), some (.ref (49 + 6 * 0)), some (.int x2), some (.int x3), some (.int x4)], [])) (S' := [.int (sa 0 4 x3.toNatClampNeg), .int x3, .ref (50 + 6 * 0 + 4)]) (h' := (jX f g n2 p pa (jup s 0 (jup (s 0) 4 ((u1 + u0)))) sa true rp t, z)) rfl).trans (jite_congr (fun _ => rfl) (fun _ => ?_))
    refine (jev_blk 2 (pc' := 33) (L' := ([some (.ref 43), some (.ref (49 + 6 * 0)), some (.int x2), some (.int x3), some (.int x4)], [])) (S' := [.int ((sa 0 4 x3.toNatClampNeg) + 1), .int x3, .ref (50 + 6 * 0 + 4)]) (h' := (jX f g n2 p pa (jup s 0 (jup (s 0) 4 ((u1 + u0)))) sa true rp t, z)) rfl).trans ?_
    refine (jev_grd (q := jout x3 6) (pc' := 34) (L' := ([some (.ref 43), some (.ref (49 + 6 * 0)), some (.int x2), some (.int x3), some (.int x4)], [])) (S' := []) (h' := (jX f g n2 p pa (jup s 0 (jup (s 0) 4 ((u1 + u0)))) (jup sa 0 (jup (sa 0) 4 ((jup (sa 0 4) (x3.toNatClampNeg) ((sa 0 4 x3.toNatClampNeg) + 1))))) true rp t, z)) rfl).trans (jite_congr (fun _ => rfl) (fun _ => ?_))
    rfl
  · refine (jev_blk 6 (pc' := 30) (L' := ([some (.ref 43), some (.ref (49 + 6 * 1)), some (.int x2), some (.int x3), some (.int x4)], [])) (S' := [.int x3, .ref (50 + 6 * 1 + 4), .int x3, .ref (50 + 6 * 1 + 4)]) (h' := (jX f g n2 p pa (jup s 1 (jup (s 1) 4 ((u1 + u0)))) sa false rp t, z)) rfl).trans ?_
    refine (jev_grd (q := jout x3 6) (pc' := 31) (L' := ([some (.ref 43), some (.ref (49 + 6 * 1)), some (.int x2), some (.int x3), some (.int x4)], [])) (S' := [.int (sa 1 4 x3.toNatClampNeg), .int x3, .ref (50 + 6 * 1 + 4)]) (h' := (jX f g n2 p pa (jup s 1 (jup (s 1) 4 ((u1 + u0)))) sa false rp t, z)) rfl).trans (jite_congr (fun _ => rfl) (fun _ => ?_))
    refine (jev_blk 2 (pc' := 33) (L' := ([some (.ref 43), some (.ref (49 + 6 * 1)), some (.int x2), some (.int x3), some (.int x4)], [])) (S' := [.int ((sa 1 4 x3.toNatClampNeg) + 1), .int x3, .ref (50 + 6 * 1 + 4)]) (h' := (jX f g n2 p pa (jup s 1 (jup (s 1) 4 ((u1 + u0)))) sa false rp t, z)) rfl).trans ?_
    refine (jev_grd (q := jout x3 6) (pc' := 34) (L' := ([some (.ref 43), some (.ref (49 + 6 * 1)), some (.int x2), some (.int x3), some (.int x4)], [])) (S' := []) (h' := (jX f g n2 p pa (jup s 1 (jup (s 1) 4 ((u1 + u0)))) (jup sa 1 (jup (sa 1) 4 ((jup (sa 1 4) (x3.toNatClampNeg) ((sa 1 4 x3.toNatClampNeg) + 1))))) false rp t, z)) rfl).trans (jite_congr (fun _ => rfl) (fun _ => ?_))
    rfl
  · refine (jev_blk 6 (pc' := 30) (L' := ([some (.ref 43), some (.ref (49 + 6 * 1)), some (.int x2), some (.int x3), some (.int x4)], [])) (S' := [.int x3, .ref (50 + 6 * 1 + 4), .int x3, .ref (50 + 6 * 1 + 4)]) (h' := (jX f g n2 p pa (jup s 1 (jup (s 1) 4 ((u1 + u0)))) sa true rp t, z)) rfl).trans ?_
    refine (jev_grd (q := jout x3 6) (pc' := 31) (L' := ([some (.ref 43), some (.ref (49 + 6 * 1)), some (.int x2), some (.int x3), some (.int x4)], [])) (S' := [.int (sa 1 4 x3.toNatClampNeg), .int x3, .ref (50 + 6 * 1 + 4)]) (h' := (jX f g n2 p pa (jup s 1 (jup (s 1) 4 ((u1 + u0)))) sa true rp t, z)) rfl).trans (jite_congr (fun _ => rfl) (fun _ => ?_))
    refine (jev_blk 2 (pc' := 33) (L' := ([some (.ref 43), some (.ref (49 + 6 * 1)), some (.int x2), some (.int x3), some (.int x4)], [])) (S' := [.int ((sa 1 4 x3.toNatClampNeg) + 1), .int x3, .ref (50 + 6 * 1 + 4)]) (h' := (jX f g n2 p pa (jup s 1 (jup (s 1) 4 ((u1 + u0)))) sa true rp t, z)) rfl).trans ?_
    refine (jev_grd (q := jout x3 6) (pc' := 34) (L' := ([some (.ref 43), some (.ref (49 + 6 * 1)), some (.int x2), some (.int x3), some (.int x4)], [])) (S' := []) (h' := (jX f g n2 p pa (jup s 1 (jup (s 1) 4 ((u1 + u0)))) (jup sa 1 (jup (sa 1) 4 ((jup (sa 1 4) (x3.toNatClampNeg) ((sa 1 4 x3.toNatClampNeg) + 1))))) true rp t, z)) rfl).trans (jite_congr (fun _ => rfl) (fun _ => ?_))
    rfl
  · refine (jev_blk 6 (pc' := 30) (L' := ([some (.ref 43), some (.ref (49 + 6 * 2)), some (.int x2), some (.int x3), some (.int x4)], [])) (S' := [.int x3, .ref (50 + 6 * 2 + 4), .int x3, .ref (50 + 6 * 2 + 4)]) (h' := (jX f g n2 p pa (jup s 2 (jup (s 2) 4 ((u1 + u0)))) sa false rp t, z)) rfl).trans ?_
    refine (jev_grd (q := jout x3 6) (pc' := 31) (L' := ([some (.ref 43), some (.ref (49 + 6 * 2)), some (.int x2), some (.int x3), some (.int x4)], [])) (S' := [.int (sa 2 4 x3.toNatClampNeg), .int x3, .ref (50 + 6 * 2 + 4)]) (h' := (jX f g n2 p pa (jup s 2 (jup (s 2) 4 ((u1 + u0)))) sa false rp t, z)) rfl).trans (jite_congr (fun _ => rfl) (fun _ => ?_))
    refine (jev_blk 2 (pc' := 33) (L' := ([some (.ref 43), some (.ref (49 + 6 * 2)), some (.int x2), some (.int x3), some (.int x4)], [])) (S' := [.int ((sa 2 4 x3.toNatClampNeg) + 1), .int x3, .ref (50 + 6 * 2 + 4)]) (h' := (jX f g n2 p pa (jup s 2 (jup (s 2) 4 ((u1 + u0)))) sa false rp t, z)) rfl).trans ?_
    refine (jev_grd (q := jout x3 6) (pc' := 34) (L' := ([some (.ref 43), some (.ref (49 + 6 * 2)), some (.int x2), some (.int x3), some (.int x4)], [])) (S' := []) (h' := (jX f g n2 p pa (jup s 2 (jup (s 2) 4 ((u1 + u0)))) (jup sa 2 (jup (sa 2) 4 ((jup (sa 2 4) (x3.toNatClampNeg) ((sa 2 4 x3.toNatClampNeg) + 1))))) false rp t, z)) rfl).trans (jite_congr (fun _ => rfl) (fun _ => ?_))
    rfl
  · refine (jev_blk 6 (pc' := 30) (L' := ([some (.ref 43), some (.ref (49 + 6 * 2)), some (.int x2), some (.int x3), some (.int x4)], [])) (S' := [.int x3, .ref (50 + 6 * 2 + 4), .int x3, .ref (50 + 6 * 2 + 4)]) (h' := (jX f g n2 p pa (jup s 2 (jup (s 2) 4 ((u1 + u0)))) sa true rp t, z)) rfl).trans ?_
    refine (jev_grd (q := jout x3 6) (pc' := 31) (L' := ([some (.ref 43), some (.ref (49 + 6 * 2)), some (.int x2), some (.int x3), some (.int x4)], [])) (S' := [.int (sa 2 4 x3.toNatClampNeg), .int x3, .ref (50 + 6 * 2 + 4)]) (h' := (jX f g n2 p pa (jup s 2 (jup (s 2) 4 ((u1 + u0)))) sa true rp t, z)) rfl).trans (jite_congr (fun _ => rfl) (fun _ => ?_))
    refine (jev_blk 2 (pc' := 33) (L' := ([some (.ref 43), some (.ref (49 + 6 * 2)), some (.int x2), some (.int x3), some (.int x4)], [])) (S' := [.int ((sa 2 4 x3.toNatClampNeg) + 1), .int x3, .ref (50 + 6 * 2 + 4)]) (h' := (jX f g n2 p pa (jup s 2 (jup (s 2) 4 ((u1 + u0)))) sa true rp t, z)) rfl).trans ?_
    refine (jev_grd (q := jout x3 6) (pc' := 34) (L' := ([some (.ref 43), some (.ref (49 + 6 * 2)), some (.int x2), some (.int x3), some (.int x4)], [])) (S' := []) (h' := (jX f g n2 p pa (jup s 2 (jup (s 2) 4 ((u1 + u0)))) (jup sa 2 (jup (sa 2) 4 ((jup (sa 2 4) (x3.toNatClampNeg) ((sa 2 4 x3.toNatClampNeg) + 1))))) true rp t, z)) rfl).trans (jite_congr (fun _ => rfl) (fun _ => ?_))
    rfl
set_option maxRecDepth 20000 in
theorem E_h_pass_41 {D : Nat} {j : Nat} {d2 : Option Value} {x3 : Int32} {d4 : Option Value} {u0 : Int32} {u1 : Int32} {f : Nat → Int32} {g : Nat → Nat → Int32} {n2 : Nat → Nat → Int64} {p : Nat → Nat → Int32} {pa : Nat → Nat → Nat → Int32} {s : Nat → Nat → Int32} {sa : Nat → Nat → Nat → Int32} {sw : Bool} {rp : Value} {t : List jE} {z : Nat × Nat × Nat × (Nat → Int32)} (hj : j < 3) : jev D 16 41 ([some (.ref 43), some (.ref (49 + 6 * j)), d2, some (.int x3), d4], []) [.int u0, .int u1] (jX f g n2 p pa s sa sw rp t, z) = K_h_pass_43 D j (u1 ||| u0) x3 d4 f g n2 p pa s sa sw rp t z := by
  rcases jlt3 hj with rfl | rfl | rfl <;> cases sw
  · exact jev_blk 2 rfl
  · exact jev_blk 2 rfl
  · exact jev_blk 2 rfl
  · exact jev_blk 2 rfl
  · exact jev_blk 2 rfl
  · exact jev_blk 2 rfl
set_option maxRecDepth 20000 in
theorem E_h_pass_70 {D : Nat} {j : Nat} {x2 : Int32} {x3 : Int32} {d4 : Option Value} {u0 : Int32} {f : Nat → Int32} {g : Nat → Nat → Int32} {n2 : Nat → Nat → Int64} {p : Nat → Nat → Int32} {pa : Nat → Nat → Nat → Int32} {s : Nat → Nat → Int32} {sa : Nat → Nat → Nat → Int32} {sw : Bool} {rp : Value} {t : List jE} {z : Nat × Nat × Nat × (Nat → Int32)} (hj : j < 3) : jev D 16 70 ([some (.ref 43), some (.ref (49 + 6 * j)), some (.int x2), some (.int x3), d4], []) [.int u0] (jX f g n2 p pa s sa sw rp t, z) = if jout x3 30 then none else (if jout x3 30 then none else (K_h_pass_85 D j x2 (some (.int x3)) (some (.int u0)) f g n2 p pa (jup s j (jup (s j) 3 (((s j 3) + u0)))) (jup sa j (jup (sa j) 0 ((jup (sa j 0) (x3.toNatClampNeg) ((sa j 0 x3.toNatClampNeg) - u0))))) sw rp t z)) := by
  rcases jlt3 hj with rfl | rfl | rfl <;> cases sw
  · refine (jev_blk 5 (pc' := 75) (L' := ([some (.ref 43), some (.ref (49 + 6 * 0)), some (.int x2), some (.int x3), some (.int u0)], [])) (S' := [.int x3, .ref (50 + 6 * 0 + 0), .int x3, .ref (50 + 6 * 0 + 0)]) (h' := (jX f g n2 p pa s sa false rp t, z)) rfl).trans ?_
    refine (jev_grd (q := jout x3 30) (pc' := 76) (L' := ([some (.ref 43), some (.ref (49 + 6 * 0)), some (.int x2), some (.int x3), some (.int u0)], [])) (S' := [.int (sa 0 0 x3.toNatClampNeg), .int x3, .ref (50 + 6 * 0 + 0)]) (h' := (jX f g n2 p pa s sa false rp t, z)) rfl).trans (jite_congr (fun _ => rfl) (fun _ => ?_))
    refine (jev_blk 2 (pc' := 78) (L' := ([some (.ref 43), some (.ref (49 + 6 * 0)), some (.int x2), some (.int x3), some (.int u0)], [])) (S' := [.int ((sa 0 0 x3.toNatClampNeg) - u0), .int x3, .ref (50 + 6 * 0 + 0)]) (h' := (jX f g n2 p pa s sa false rp t, z)) rfl).trans ?_
    refine (jev_grd (q := jout x3 30) (pc' := 79) (L' := ([some (.ref 43), some (.ref (49 + 6 * 0)), some (.int x2), some (.int x3), some (.int u0)], [])) (S' := []) (h' := (jX f g n2 p pa s (jup sa 0 (jup (sa 0) 0 ((jup (sa 0 0) (x3.toNatClampNeg) ((sa 0 0 x3.toNatClampNeg) - u0))))) false rp t, z)) rfl).trans (jite_congr (fun _ => rfl) (fun _ => ?_))
    exact jev_blk 6 rfl
  · refine (jev_blk 5 (pc' := 75) (L' := ([some (.ref 43), some (.ref (49 + 6 * 0)), some (.int x2), some (.int x3), some (.int u0)], [])) (S' := [.int x3, .ref (50 + 6 * 0 + 0), .int x3, .ref (50 + 6 * 0 + 0)]) (h' := (jX f g n2 p pa s sa true rp t, z)) rfl).trans ?_
    refine (jev_grd (q := jout x3 30) (pc' := 76) (L' := ([some (.ref 43), some (.ref (49 + 6 * 0)), some (.int x2), some (.int x3), some (.int u0)], [])) (S' := [.int (sa 0 0 x3.toNatClampNeg), .int x3, .ref (50 + 6 * 0 + 0)]) (h' := (jX f g n2 p pa s sa true rp t, z)) rfl).trans (jite_congr (fun _ => rfl) (fun _ => ?_))
    refine (jev_blk 2 (pc' := 78) (L' := ([some (.ref 43), some (.ref (49 + 6 * 0)), some (.int x2), some (.int x3), some (.int u0)], [])) (S' := [.int ((sa 0 0 x3.toNatClampNeg) - u0), .int x3, .ref (50 + 6 * 0 + 0)]) (h' := (jX f g n2 p pa s sa true rp t, z)) rfl).trans ?_
    refine (jev_grd (q := jout x3 30) (pc' := 79) (L' := ([some (.ref 43), some (.ref (49 + 6 * 0)), some (.int x2), some (.int x3), some (.int u0)], [])) (S' := []) (h' := (jX f g n2 p pa s (jup sa 0 (jup (sa 0) 0 ((jup (sa 0 0) (x3.toNatClampNeg) ((sa 0 0 x3.toNatClampNeg) - u0))))) true rp t, z)) rfl).trans (jite_congr (fun _ => rfl) (fun _ => ?_))
    exact jev_blk 6 rfl
  · refine (jev_blk 5 (pc' := 75) (L' := ([some (.ref 43), some (.ref (49 + 6 * 1)), some (.int x2), some (.int x3), some (.int u0)], [])) (S' := [.int x3, .ref (50 + 6 * 1 + 0), .int x3, .ref (50 + 6 * 1 + 0)]) (h' := (jX f g n2 p pa s sa false rp t, z)) rfl).trans ?_
    refine (jev_grd (q := jout x3 30) (pc' := 76) (L' := ([some (.ref 43), some (.ref (49 + 6 * 1)), some (.int x2), some (.int x3), some (.int u0)], [])) (S' := [.int (sa 1 0 x3.toNatClampNeg), .int x3, .ref (50 + 6 * 1 + 0)]) (h' := (jX f g n2 p pa s sa false rp t, z)) rfl).trans (jite_congr (fun _ => rfl) (fun _ => ?_))
    refine (jev_blk 2 (pc' := 78) (L' := ([some (.ref 43), some (.ref (49 + 6 * 1)), some (.int x2), some (.int x3), some (.int u0)], [])) (S' := [.int ((sa 1 0 x3.toNatClampNeg) - u0), .int x3, .ref (50 + 6 * 1 + 0)]) (h' := (jX f g n2 p pa s sa false rp t, z)) rfl).trans ?_
    refine (jev_grd (q := jout x3 30) (pc' := 79) (L' := ([some (.ref 43), some (.ref (49 + 6 * 1)), some (.int x2), some (.int x3), some (.int u0)], [])) (S' := []) (h' := (jX f g n2 p pa s (jup sa 1 (jup (sa 1) 0 ((jup (sa 1 0) (x3.toNatClampNeg) ((sa 1 0 x3.toNatClampNeg) - u0))))) false rp t, z)) rfl).trans (jite_congr (fun _ => rfl) (fun _ => ?_))
    exact jev_blk 6 rfl
  · refine (jev_blk 5 (pc' := 75) (L' := ([some (.ref 43), some (.ref (49 + 6 * 1)), some (.int x2), some (.int x3), some (.int u0)], [])) (S' := [.int x3, .ref (50 + 6 * 1 + 0), .int x3, .ref (50 + 6 * 1 + 0)]) (h' := (jX f g n2 p pa s sa true rp t, z)) rfl).trans ?_
    refine (jev_grd (q := jout x3 30) (pc' := 76) (L' := ([some (.ref 43), some (.ref (49 + 6 * 1)), some (.int x2), some (.int x3), some (.int u0)], [])) (S' := [.int (sa 1 0 x3.toNatClampNeg), .int x3, .ref (50 + 6 * 1 + 0)]) (h' := (jX f g n2 p pa s sa true rp t, z)) rfl).trans (jite_congr (fun _ => rfl) (fun _ => ?_))
    refine (jev_blk 2 (pc' := 78) (L' := ([some (.ref 43), some (.ref (49 + 6 * 1)), some (.int x2), some (.int x3), some (.int u0)], [])) (S' := [.int ((sa 1 0 x3.toNatClampNeg) - u0), .int x3, .ref (50 + 6 * 1 + 0)]) (h' := (jX f g n2 p pa s sa true rp t, z)) rfl).trans ?_
    refine (jev_grd (q := jout x3 30) (pc' := 79) (L' := ([some (.ref 43), some (.ref (49 + 6 * 1)), some (.int x2), some (.int x3), some (.int u0)], [])) (S' := []) (h' := (jX f g n2 p pa s (jup sa 1 (jup (sa 1) 0 ((jup (sa 1 0) (x3.toNatClampNeg) ((sa 1 0 x3.toNatClampNeg) - u0))))) true rp t, z)) rfl).trans (jite_congr (fun _ => rfl) (fun _ => ?_))
    exact jev_blk 6 rfl
  · refine (jev_blk 5 (pc' := 75) (L' := ([some (.ref 43), some (.ref (49 + 6 * 2)), some (.int x2), some (.int x3), some (.int u0)], [])) (S' := [.int x3, .ref (50 + 6 * 2 + 0), .int x3, .ref (50 + 6 * 2 + 0)]) (h' := (jX f g n2 p pa s sa false rp t, z)) rfl).trans ?_
    refine (jev_grd (q := jout x3 30) (pc' := 76) (L' := ([some (.ref 43), some (.ref (49 + 6 * 2)), some (.int x2), some (.int x3), some (.int u0)], [])) (S' := [.int (sa 2 0 x3.toNatClampNeg), .int x3, .ref (50 + 6 * 2 + 0)]) (h' := (jX f g n2 p pa s sa false rp t, z)) rfl).trans (jite_congr (fun _ => rfl) (fun _ => ?_))
    refine (jev_blk 2 (pc' := 78) (L' := ([some (.ref 43), some (.ref (49 + 6 * 2)), some (.int x2), some (.int x3), some (.int u0)], [])) (S' := [.int ((sa 2 0 x3.toNatClampNeg) - u0), .int x3, .ref (50 + 6 * 2 + 0)]) (h' := (jX f g n2 p pa s sa false rp t, z)) rfl).trans ?_
    refine (jev_grd (q := jout x3 30) (pc' := 79) (L' := ([some (.ref 43), some (.ref (49 + 6 * 2)), some (.int x2), some (.int x3), some (.int u0)], [])) (S' := []) (h' := (jX f g n2 p pa s (jup sa 2 (jup (sa 2) 0 ((jup (sa 2 0) (x3.toNatClampNeg) ((sa 2 0 x3.toNatClampNeg) - u0))))) false rp t, z)) rfl).trans (jite_congr (fun _ => rfl) (fun _ => ?_))
    exact jev_blk 6 rfl
  · refine (jev_blk 5 (pc' := 75) (L' := ([some (.ref 43), some (.ref (49 + 6 * 2)), some (.int x2), some (.int x3), some (.int u0)], [])) (S' := [.int x3, .ref (50 + 6 * 2 + 0), .int x3, .ref (50 + 6 * 2 + 0)]) (h' := (jX f g n2 p pa s sa true rp t, z)) rfl).trans ?_
    refine (jev_grd (q := jout x3 30) (pc' := 76) (L' := ([some (.ref 43), some (.ref (49 + 6 * 2)), some (.int x2), some (.int x3), some (.int u0)], [])) (S' := [.int (sa 2 0 x3.toNatClampNeg), .int x3, .ref (50 + 6 * 2 + 0)]) (h' := (jX f g n2 p pa s sa true rp t, z)) rfl).trans (jite_congr (fun _ => rfl) (fun _ => ?_))
    refine (jev_blk 2 (pc' := 78) (L' := ([some (.ref 43), some (.ref (49 + 6 * 2)), some (.int x2), some (.int x3), some (.int u0)], [])) (S' := [.int ((sa 2 0 x3.toNatClampNeg) - u0), .int x3, .ref (50 + 6 * 2 + 0)]) (h' := (jX f g n2 p pa s sa true rp t, z)) rfl).trans ?_
    refine (jev_grd (q := jout x3 30) (pc' := 79) (L' := ([some (.ref 43), some (.ref (49 + 6 * 2)), some (.int x2), some (.int x3), some (.int u0)], [])) (S' := []) (h' := (jX f g n2 p pa s (jup sa 2 (jup (sa 2) 0 ((jup (sa 2 0) (x3.toNatClampNeg) ((sa 2 0 x3.toNatClampNeg) - u0))))) true rp t, z)) rfl).trans (jite_congr (fun _ => rfl) (fun _ => ?_))
    exact jev_blk 6 rfl
set_option maxRecDepth 20000 in
theorem E_h_pass_93 {D : Nat}  {d1 : Option Value} {d2 : Option Value} {d3 : Option Value} {d4 : Option Value} {f : Nat → Int32} {g : Nat → Nat → Int32} {n2 : Nat → Nat → Int64} {p : Nat → Nat → Int32} {pa : Nat → Nat → Nat → Int32} {s : Nat → Nat → Int32} {sa : Nat → Nat → Nat → Int32} {sw : Bool} {rp : Value} {t : List jE} {z : Nat × Nat × Nat × (Nat → Int32)}  : jev D 16 93 ([some (.ref 43), d1, d2, d3, d4], []) [] (jX f g n2 p pa s sa sw rp t, z) = some (.inl (none), (jX f g n2 p pa s sa sw rp t, z)) := by
  cases sw
  · exact jev_fin rfl
  · exact jev_fin rfl
set_option maxRecDepth 20000 in
theorem E_h_passHours {D : Nat} {j : Nat} {a1 : Int32} {a2 : Int32} {f : Nat → Int32} {g : Nat → Nat → Int32} {n2 : Nat → Nat → Int64} {p : Nat → Nat → Int32} {pa : Nat → Nat → Nat → Int32} {s : Nat → Nat → Int32} {sa : Nat → Nat → Nat → Int32} {sw : Bool} {rp : Value} {t : List jE} {z : Nat × Nat × Nat × (Nat → Int32)} (hj : j < 3) : K_h_passHours D j a1 a2 f g n2 p pa s sa sw rp t z = K_h_passHours_2 D j a1 a2 0 f g n2 p pa s sa sw rp t z := by
  rcases jlt3 hj with rfl | rfl | rfl <;> cases sw
  · exact jev_blk 2 rfl
  · exact jev_blk 2 rfl
  · exact jev_blk 2 rfl
  · exact jev_blk 2 rfl
  · exact jev_blk 2 rfl
  · exact jev_blk 2 rfl
set_option maxRecDepth 20000 in
theorem L_h_passHours_2 {D : Nat} {j : Nat} {x2 : Int32} {x3 : Int32} {x4 : Int32} {f : Nat → Int32} {g : Nat → Nat → Int32} {n2 : Nat → Nat → Int64} {p : Nat → Nat → Int32} {pa : Nat → Nat → Nat → Int32} {s : Nat → Nat → Int32} {sa : Nat → Nat → Nat → Int32} {sw : Bool} {rp : Value} {t : List jE} {z : Nat × Nat × Nat × (Nat → Int32)} (hj : j < 3) : K_h_passHours_2 D j x2 x3 x4 f g n2 p pa s sa sw rp t z = if x4 < x2 then (if (s j 3) < x3 then (if (f 14) = 0 then (K_h_passHours_16 D j x2 x3 x4 (-1) f g n2 p pa s sa sw rp t z) else (K_h_passHours_16 D j x2 x3 x4 x4 f g n2 p pa s sa sw rp t z)) else (some (.inl (none), (jX f g n2 p pa s sa sw rp t, z)))) else (some (.inl (none), (jX f g n2 p pa s sa sw rp t, z))) := by
  rcases jlt3 hj with rfl | rfl | rfl <;> cases sw
  · refine (jev_blk 3 (pc' := if x4 < x2 then 5 else 22) (L' := ([some (.ref 43), some (.ref (49 + 6 * 0)), some (.int x2), some (.int x3), some (.int x4)], [])) (S' := []) (h' := (jX f g n2 p pa s sa false rp t, z)) rfl).trans (jev_ite.trans (jite_congr (fun _ => ?_) (fun _ => ?_)))
    · refine (jev_blk 4 (pc' := if (s 0 3) < x3 then 9 else 22) (L' := ([some (.ref 43), some (.ref (49 + 6 * 0)), some (.int x2), some (.int x3), some (.int x4)], [])) (S' := []) (h' := (jX f g n2 p pa s sa false rp t, z)) rfl).trans (jev_ite.trans (jite_congr (fun _ => ?_) (fun _ => ?_)))
      · refine (jev_blk 4 (pc' := if (f 14) = 0 then 15 else 13) (L' := ([some (.ref 43), some (.ref (49 + 6 * 0)), some (.int x2), some (.int x3), some (.int x4)], [])) (S' := [.ref 43]) (h' := (jX f g n2 p pa s sa false rp t, z)) rfl).trans (jev_ite.trans (jite_congr (fun _ => ?_) (fun _ => ?_)))
        · exact jev_blk 1 rfl
        · exact jev_blk 2 rfl
      · exact jev_fin rfl
    · exact jev_fin rfl
  · refine (jev_blk 3 (pc' := if x4 < x2 then 5 else 22) (L' := ([some (.ref 43), some (.ref (49 + 6 * 0)), some (.int x2), some (.int x3), some (.int x4)], [])) (S' := []) (h' := (jX f g n2 p pa s sa true rp t, z)) rfl).trans (jev_ite.trans (jite_congr (fun _ => ?_) (fun _ => ?_)))
    · refine (jev_blk 4 (pc' := if (s 0 3) < x3 then 9 else 22) (L' := ([some (.ref 43), some (.ref (49 + 6 * 0)), some (.int x2), some (.int x3), some (.int x4)], [])) (S' := []) (h' := (jX f g n2 p pa s sa true rp t, z)) rfl).trans (jev_ite.trans (jite_congr (fun _ => ?_) (fun _ => ?_)))
      · refine (jev_blk 4 (pc' := if (f 14) = 0 then 15 else 13) (L' := ([some (.ref 43), some (.ref (49 + 6 * 0)), some (.int x2), some (.int x3), some (.int x4)], [])) (S' := [.ref 43]) (h' := (jX f g n2 p pa s sa true rp t, z)) rfl).trans (jev_ite.trans (jite_congr (fun _ => ?_) (fun _ => ?_)))
        · exact jev_blk 1 rfl
        · exact jev_blk 2 rfl
      · exact jev_fin rfl
    · exact jev_fin rfl
  · refine (jev_blk 3 (pc' := if x4 < x2 then 5 else 22) (L' := ([some (.ref 43), some (.ref (49 + 6 * 1)), some (.int x2), some (.int x3), some (.int x4)], [])) (S' := []) (h' := (jX f g n2 p pa s sa false rp t, z)) rfl).trans (jev_ite.trans (jite_congr (fun _ => ?_) (fun _ => ?_)))
    · refine (jev_blk 4 (pc' := if (s 1 3) < x3 then 9 else 22) (L' := ([some (.ref 43), some (.ref (49 + 6 * 1)), some (.int x2), some (.int x3), some (.int x4)], [])) (S' := []) (h' := (jX f g n2 p pa s sa false rp t, z)) rfl).trans (jev_ite.trans (jite_congr (fun _ => ?_) (fun _ => ?_)))
      · refine (jev_blk 4 (pc' := if (f 14) = 0 then 15 else 13) (L' := ([some (.ref 43), some (.ref (49 + 6 * 1)), some (.int x2), some (.int x3), some (.int x4)], [])) (S' := [.ref 43]) (h' := (jX f g n2 p pa s sa false rp t, z)) rfl).trans (jev_ite.trans (jite_congr (fun _ => ?_) (fun _ => ?_)))
        · exact jev_blk 1 rfl
        · exact jev_blk 2 rfl
      · exact jev_fin rfl
    · exact jev_fin rfl
  · refine (jev_blk 3 (pc' := if x4 < x2 then 5 else 22) (L' := ([some (.ref 43), some (.ref (49 + 6 * 1)), some (.int x2), some (.int x3), some (.int x4)], [])) (S' := []) (h' := (jX f g n2 p pa s sa true rp t, z)) rfl).trans (jev_ite.trans (jite_congr (fun _ => ?_) (fun _ => ?_)))
    · refine (jev_blk 4 (pc' := if (s 1 3) < x3 then 9 else 22) (L' := ([some (.ref 43), some (.ref (49 + 6 * 1)), some (.int x2), some (.int x3), some (.int x4)], [])) (S' := []) (h' := (jX f g n2 p pa s sa true rp t, z)) rfl).trans (jev_ite.trans (jite_congr (fun _ => ?_) (fun _ => ?_)))
      · refine (jev_blk 4 (pc' := if (f 14) = 0 then 15 else 13) (L' := ([some (.ref 43), some (.ref (49 + 6 * 1)), some (.int x2), some (.int x3), some (.int x4)], [])) (S' := [.ref 43]) (h' := (jX f g n2 p pa s sa true rp t, z)) rfl).trans (jev_ite.trans (jite_congr (fun _ => ?_) (fun _ => ?_)))
        · exact jev_blk 1 rfl
        · exact jev_blk 2 rfl
      · exact jev_fin rfl
    · exact jev_fin rfl
  · refine (jev_blk 3 (pc' := if x4 < x2 then 5 else 22) (L' := ([some (.ref 43), some (.ref (49 + 6 * 2)), some (.int x2), some (.int x3), some (.int x4)], [])) (S' := []) (h' := (jX f g n2 p pa s sa false rp t, z)) rfl).trans (jev_ite.trans (jite_congr (fun _ => ?_) (fun _ => ?_)))
    · refine (jev_blk 4 (pc' := if (s 2 3) < x3 then 9 else 22) (L' := ([some (.ref 43), some (.ref (49 + 6 * 2)), some (.int x2), some (.int x3), some (.int x4)], [])) (S' := []) (h' := (jX f g n2 p pa s sa false rp t, z)) rfl).trans (jev_ite.trans (jite_congr (fun _ => ?_) (fun _ => ?_)))
      · refine (jev_blk 4 (pc' := if (f 14) = 0 then 15 else 13) (L' := ([some (.ref 43), some (.ref (49 + 6 * 2)), some (.int x2), some (.int x3), some (.int x4)], [])) (S' := [.ref 43]) (h' := (jX f g n2 p pa s sa false rp t, z)) rfl).trans (jev_ite.trans (jite_congr (fun _ => ?_) (fun _ => ?_)))
        · exact jev_blk 1 rfl
        · exact jev_blk 2 rfl
      · exact jev_fin rfl
    · exact jev_fin rfl
  · refine (jev_blk 3 (pc' := if x4 < x2 then 5 else 22) (L' := ([some (.ref 43), some (.ref (49 + 6 * 2)), some (.int x2), some (.int x3), some (.int x4)], [])) (S' := []) (h' := (jX f g n2 p pa s sa true rp t, z)) rfl).trans (jev_ite.trans (jite_congr (fun _ => ?_) (fun _ => ?_)))
    · refine (jev_blk 4 (pc' := if (s 2 3) < x3 then 9 else 22) (L' := ([some (.ref 43), some (.ref (49 + 6 * 2)), some (.int x2), some (.int x3), some (.int x4)], [])) (S' := []) (h' := (jX f g n2 p pa s sa true rp t, z)) rfl).trans (jev_ite.trans (jite_congr (fun _ => ?_) (fun _ => ?_)))
      · refine (jev_blk 4 (pc' := if (f 14) = 0 then 15 else 13) (L' := ([some (.ref 43), some (.ref (49 + 6 * 2)), some (.int x2), some (.int x3), some (.int x4)], [])) (S' := [.ref 43]) (h' := (jX f g n2 p pa s sa true rp t, z)) rfl).trans (jev_ite.trans (jite_congr (fun _ => ?_) (fun _ => ?_)))
        · exact jev_blk 1 rfl
        · exact jev_blk 2 rfl
      · exact jev_fin rfl
    · exact jev_fin rfl
set_option maxRecDepth 20000 in
theorem E_h_passHours_16 {D : Nat} {j : Nat} {x2 : Int32} {x3 : Int32} {x4 : Int32} {u0 : Int32} {f : Nat → Int32} {g : Nat → Nat → Int32} {n2 : Nat → Nat → Int64} {p : Nat → Nat → Int32} {pa : Nat → Nat → Nat → Int32} {s : Nat → Nat → Int32} {sa : Nat → Nat → Nat → Int32} {sw : Bool} {rp : Value} {t : List jE} {z : Nat × Nat × Nat × (Nat → Int32)} (hj : j < 3) : K_h_passHours_16 D j x2 x3 x4 u0 f g n2 p pa s sa sw rp t z = jbO (K_h_pass D j (jup f 15 (u0)) g n2 p pa s sa sw rp t z) (jk D 17 20 ([some (.ref 43), some (.ref (49 + 6 * j)), some (.int x2), some (.int x3), some (.int x4)], []) []) := by
  rcases jlt3 hj with rfl | rfl | rfl <;> cases sw
  · refine (jev_blk 3 (pc' := 19) (L' := ([some (.ref 43), some (.ref (49 + 6 * 0)), some (.int x2), some (.int x3), some (.int x4)], [])) (S' := [.ref (49 + 6 * 0), .ref 43]) (h' := (jX (jup f 15 (u0)) g n2 p pa s sa false rp t, z)) rfl).trans ?_
    exact jev_callb (nx := 20) (rest := []) rfl
  · refine (jev_blk 3 (pc' := 19) (L' := ([some (.ref 43), some (.ref (49 + 6 * 0)), some (.int x2), some (.int x3), some (.int x4)], [])) (S' := [.ref (49 + 6 * 0), .ref 43]) (h' := (jX (jup f 15 (u0)) g n2 p pa s sa true rp t, z)) rfl).trans ?_
    exact jev_callb (nx := 20) (rest := []) rfl
  · refine (jev_blk 3 (pc' := 19) (L' := ([some (.ref 43), some (.ref (49 + 6 * 1)), some (.int x2), some (.int x3), some (.int x4)], [])) (S' := [.ref (49 + 6 * 1), .ref 43]) (h' := (jX (jup f 15 (u0)) g n2 p pa s sa false rp t, z)) rfl).trans ?_
    exact jev_callb (nx := 20) (rest := []) rfl
  · refine (jev_blk 3 (pc' := 19) (L' := ([some (.ref 43), some (.ref (49 + 6 * 1)), some (.int x2), some (.int x3), some (.int x4)], [])) (S' := [.ref (49 + 6 * 1), .ref 43]) (h' := (jX (jup f 15 (u0)) g n2 p pa s sa true rp t, z)) rfl).trans ?_
    exact jev_callb (nx := 20) (rest := []) rfl
  · refine (jev_blk 3 (pc' := 19) (L' := ([some (.ref 43), some (.ref (49 + 6 * 2)), some (.int x2), some (.int x3), some (.int x4)], [])) (S' := [.ref (49 + 6 * 2), .ref 43]) (h' := (jX (jup f 15 (u0)) g n2 p pa s sa false rp t, z)) rfl).trans ?_
    exact jev_callb (nx := 20) (rest := []) rfl
  · refine (jev_blk 3 (pc' := 19) (L' := ([some (.ref 43), some (.ref (49 + 6 * 2)), some (.int x2), some (.int x3), some (.int x4)], [])) (S' := [.ref (49 + 6 * 2), .ref 43]) (h' := (jX (jup f 15 (u0)) g n2 p pa s sa true rp t, z)) rfl).trans ?_
    exact jev_callb (nx := 20) (rest := []) rfl
set_option maxRecDepth 20000 in
theorem E_h_passHours_20 {D : Nat} {j : Nat} {x2 : Int32} {x3 : Int32} {x4 : Int32} {f : Nat → Int32} {g : Nat → Nat → Int32} {n2 : Nat → Nat → Int64} {p : Nat → Nat → Int32} {pa : Nat → Nat → Nat → Int32} {s : Nat → Nat → Int32} {sa : Nat → Nat → Nat → Int32} {sw : Bool} {rp : Value} {t : List jE} {z : Nat × Nat × Nat × (Nat → Int32)} (hj : j < 3) : jev D 17 20 ([some (.ref 43), some (.ref (49 + 6 * j)), some (.int x2), some (.int x3), some (.int x4)], []) [] (jX f g n2 p pa s sa sw rp t, z) = K_h_passHours_2 D j x2 x3 (x4 + 1) f g n2 p pa s sa sw rp t z := by
  rcases jlt3 hj with rfl | rfl | rfl <;> cases sw
  · exact jev_blk 2 rfl
  · exact jev_blk 2 rfl
  · exact jev_blk 2 rfl
  · exact jev_blk 2 rfl
  · exact jev_blk 2 rfl
  · exact jev_blk 2 rfl
set_option maxRecDepth 20000 in
theorem E_h_passDays {D : Nat} {j : Nat} {a1 : Int32} {f : Nat → Int32} {g : Nat → Nat → Int32} {n2 : Nat → Nat → Int64} {p : Nat → Nat → Int32} {pa : Nat → Nat → Nat → Int32} {s : Nat → Nat → Int32} {sa : Nat → Nat → Nat → Int32} {sw : Bool} {rp : Value} {t : List jE} {z : Nat × Nat × Nat × (Nat → Int32)} (hj : j < 3) : K_h_passDays D j a1 f g n2 p pa s sa sw rp t z = K_h_passDays_9 D j (some (.int a1)) ((a1 * 12) - (s j 1)) 0 f g n2 p pa s sa sw rp t z := by
  rcases jlt3 hj with rfl | rfl | rfl <;> cases sw
  · exact jev_blk 9 rfl
  · exact jev_blk 9 rfl
  · exact jev_blk 9 rfl
  · exact jev_blk 9 rfl
  · exact jev_blk 9 rfl
  · exact jev_blk 9 rfl
set_option maxRecDepth 20000 in
theorem L_h_passDays_9 {D : Nat} {j : Nat} {d2 : Option Value} {x3 : Int32} {x4 : Int32} {f : Nat → Int32} {g : Nat → Nat → Int32} {n2 : Nat → Nat → Int64} {p : Nat → Nat → Int32} {pa : Nat → Nat → Nat → Int32} {s : Nat → Nat → Int32} {sa : Nat → Nat → Nat → Int32} {sw : Bool} {rp : Value} {t : List jE} {z : Nat × Nat × Nat × (Nat → Int32)} (hj : j < 3) : K_h_passDays_9 D j d2 x3 x4 f g n2 p pa s sa sw rp t z = if x4 < x3 then (jbO (K_h_pass D j f g n2 p pa s sa sw rp t z) (jk D 18 15 ([some (.ref 43), some (.ref (49 + 6 * j)), d2, some (.int x3), some (.int x4)], []) [])) else (some (.inl (none), (jX f g n2 p pa s sa sw rp t, z))) := by
  rcases jlt3 hj with rfl | rfl | rfl <;> cases sw
  · refine (jev_blk 3 (pc' := if x4 < x3 then 12 else 17) (L' := ([some (.ref 43), some (.ref (49 + 6 * 0)), d2, some (.int x3), some (.int x4)], [])) (S' := []) (h' := (jX f g n2 p pa s sa false rp t, z)) rfl).trans (jev_ite.trans (jite_congr (fun _ => ?_) (fun _ => ?_)))
    · refine (jev_blk 2 (pc' := 14) (L' := ([some (.ref 43), some (.ref (49 + 6 * 0)), d2, some (.int x3), some (.int x4)], [])) (S' := [.ref (49 + 6 * 0), .ref 43]) (h' := (jX f g n2 p pa s sa false rp t, z)) rfl).trans ?_
      exact jev_callb (nx := 15) (rest := []) rfl
    · exact jev_fin rfl
  · refine (jev_blk 3 (pc' := if x4 < x3 then 12 else 17) (L' := ([some (.ref 43), some (.ref (49 + 6 * 0)), d2, some (.int x3), some (.int x4)], [])) (S' := []) (h' := (jX f g n2 p pa s sa true rp t, z)) rfl).trans (jev_ite.trans (jite_congr (fun _ => ?_) (fun _ => ?_)))
    · refine (jev_blk 2 (pc' := 14) (L' := ([some (.ref 43), some (.ref (49 + 6 * 0)), d2, some (.int x3), some (.int x4)], [])) (S' := [.ref (49 + 6 * 0), .ref 43]) (h' := (jX f g n2 p pa s sa true rp t, z)) rfl).trans ?_
      exact jev_callb (nx := 15) (rest := []) rfl
    · exact jev_fin rfl
  · refine (jev_blk 3 (pc' := if x4 < x3 then 12 else 17) (L' := ([some (.ref 43), some (.ref (49 + 6 * 1)), d2, some (.int x3), some (.int x4)], [])) (S' := []) (h' := (jX f g n2 p pa s sa false rp t, z)) rfl).trans (jev_ite.trans (jite_congr (fun _ => ?_) (fun _ => ?_)))
    · refine (jev_blk 2 (pc' := 14) (L' := ([some (.ref 43), some (.ref (49 + 6 * 1)), d2, some (.int x3), some (.int x4)], [])) (S' := [.ref (49 + 6 * 1), .ref 43]) (h' := (jX f g n2 p pa s sa false rp t, z)) rfl).trans ?_
      exact jev_callb (nx := 15) (rest := []) rfl
    · exact jev_fin rfl
  · refine (jev_blk 3 (pc' := if x4 < x3 then 12 else 17) (L' := ([some (.ref 43), some (.ref (49 + 6 * 1)), d2, some (.int x3), some (.int x4)], [])) (S' := []) (h' := (jX f g n2 p pa s sa true rp t, z)) rfl).trans (jev_ite.trans (jite_congr (fun _ => ?_) (fun _ => ?_)))
    · refine (jev_blk 2 (pc' := 14) (L' := ([some (.ref 43), some (.ref (49 + 6 * 1)), d2, some (.int x3), some (.int x4)], [])) (S' := [.ref (49 + 6 * 1), .ref 43]) (h' := (jX f g n2 p pa s sa true rp t, z)) rfl).trans ?_
      exact jev_callb (nx := 15) (rest := []) rfl
    · exact jev_fin rfl
  · refine (jev_blk 3 (pc' := if x4 < x3 then 12 else 17) (L' := ([some (.ref 43), some (.ref (49 + 6 * 2)), d2, some (.int x3), some (.int x4)], [])) (S' := []) (h' := (jX f g n2 p pa s sa false rp t, z)) rfl).trans (jev_ite.trans (jite_congr (fun _ => ?_) (fun _ => ?_)))
    · refine (jev_blk 2 (pc' := 14) (L' := ([some (.ref 43), some (.ref (49 + 6 * 2)), d2, some (.int x3), some (.int x4)], [])) (S' := [.ref (49 + 6 * 2), .ref 43]) (h' := (jX f g n2 p pa s sa false rp t, z)) rfl).trans ?_
      exact jev_callb (nx := 15) (rest := []) rfl
    · exact jev_fin rfl
  · refine (jev_blk 3 (pc' := if x4 < x3 then 12 else 17) (L' := ([some (.ref 43), some (.ref (49 + 6 * 2)), d2, some (.int x3), some (.int x4)], [])) (S' := []) (h' := (jX f g n2 p pa s sa true rp t, z)) rfl).trans (jev_ite.trans (jite_congr (fun _ => ?_) (fun _ => ?_)))
    · refine (jev_blk 2 (pc' := 14) (L' := ([some (.ref 43), some (.ref (49 + 6 * 2)), d2, some (.int x3), some (.int x4)], [])) (S' := [.ref (49 + 6 * 2), .ref 43]) (h' := (jX f g n2 p pa s sa true rp t, z)) rfl).trans ?_
      exact jev_callb (nx := 15) (rest := []) rfl
    · exact jev_fin rfl
set_option maxRecDepth 20000 in
theorem E_h_passDays_15 {D : Nat} {j : Nat} {d2 : Option Value} {x3 : Int32} {x4 : Int32} {f : Nat → Int32} {g : Nat → Nat → Int32} {n2 : Nat → Nat → Int64} {p : Nat → Nat → Int32} {pa : Nat → Nat → Nat → Int32} {s : Nat → Nat → Int32} {sa : Nat → Nat → Nat → Int32} {sw : Bool} {rp : Value} {t : List jE} {z : Nat × Nat × Nat × (Nat → Int32)} (hj : j < 3) : jev D 18 15 ([some (.ref 43), some (.ref (49 + 6 * j)), d2, some (.int x3), some (.int x4)], []) [] (jX f g n2 p pa s sa sw rp t, z) = K_h_passDays_9 D j d2 x3 (x4 + 1) f g n2 p pa s sa sw rp t z := by
  rcases jlt3 hj with rfl | rfl | rfl <;> cases sw
  · exact jev_blk 2 rfl
  · exact jev_blk 2 rfl
  · exact jev_blk 2 rfl
  · exact jev_blk 2 rfl
  · exact jev_blk 2 rfl
  · exact jev_blk 2 rfl
