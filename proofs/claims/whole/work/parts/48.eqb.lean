-- EQUATIONS: one a block; E_ unfolds, L_ a loop's head
set_option maxRecDepth 20000 in
theorem L_m_found_2 {D : Nat}  {x1 : Int32} {x2 : Int32} {x3 : Int32} {x4 : Int32} {cx : jCX} {f : Nat → Int32} {g : Nat → Nat → Int32} {n : Nat → Nat → Int64} {b : Nat → Nat → Int32} {l : Nat → Int64} {t : List jE} {z : Nat × Nat × Nat × (Nat → Int32)}  : K_m_found_2 D x1 x2 x3 x4 cx f g n b l t z = if x4 < x2 then (if jout (x1 + x4) 12 then none else (if (g 3 (x1 + x4).toNatClampNeg) = x3 then (some (.inl (some (.int x4)), (jXt cx (jY f g n b l t), z))) else (K_m_found_2 D x1 x2 x3 (x4 + 1) cx f g n b l t z))) else (some (.inl (some (.int (-1))), (jXt cx (jY f g n b l t), z))) := by
  refine (jev_blk 3 (pc' := if x4 < x2 then 5 else 16) (L' := ([some (.ref 83), some (.int x1), some (.int x2), some (.int x3), some (.int x4)], [])) (S' := []) (h' := (jXt cx (jY f g n b l t), z)) rfl).trans (jev_ite.trans (jite_congr (fun _ => ?_) (fun _ => ?_)))
  · refine (jev_blk 4 (pc' := 9) (L' := ([some (.ref 83), some (.int x1), some (.int x2), some (.int x3), some (.int x4)], [])) (S' := [.int (x1 + x4), .ref 83]) (h' := (jXt cx (jY f g n b l t), z)) rfl).trans ?_
    refine (jev_grd (q := jout (x1 + x4) 12) (pc' := 10) (L' := ([some (.ref 83), some (.int x1), some (.int x2), some (.int x3), some (.int x4)], [])) (S' := [.int (g 3 (x1 + x4).toNatClampNeg)]) (h' := (jXt cx (jY f g n b l t), z)) rfl).trans (jite_congr (fun _ => rfl) (fun _ => ?_))
    refine (jev_blk 2 (pc' := if (g 3 (x1 + x4).toNatClampNeg) = x3 then 12 else 14) (L' := ([some (.ref 83), some (.int x1), some (.int x2), some (.int x3), some (.int x4)], [])) (S' := []) (h' := (jXt cx (jY f g n b l t), z)) rfl).trans (jev_ite.trans (jite_congr (fun _ => ?_) (fun _ => ?_)))
    · refine (jev_blk 1 (pc' := 13) (L' := ([some (.ref 83), some (.int x1), some (.int x2), some (.int x3), some (.int x4)], [])) (S' := [.int x4]) (h' := (jXt cx (jY f g n b l t), z)) rfl).trans ?_
      exact jev_fin rfl
    · exact jev_blk 2 rfl
  · refine (jev_blk 1 (pc' := 17) (L' := ([some (.ref 83), some (.int x1), some (.int x2), some (.int x3), some (.int x4)], [])) (S' := [.int (-1)]) (h' := (jXt cx (jY f g n b l t), z)) rfl).trans ?_
    exact jev_fin rfl
set_option maxRecDepth 20000 in
theorem E_m_fresh {D : Nat}  {a1 : Int32} {a2 : Int32} {cx : jCX} {f : Nat → Int32} {g : Nat → Nat → Int32} {n : Nat → Nat → Int64} {b : Nat → Nat → Int32} {l : Nat → Int64} {t : List jE} {z : Nat × Nat × Nat × (Nat → Int32)}  : K_m_fresh D a1 a2 cx f g n b l t z = if (f 9) = 0 then (if (f 7) = 1 then (jbO (K_m_found D a1 a2 (f 8) cx f g n b l t z) (jk D 154 19 ([some (.ref 79), some (.ref 83), some (.int a1), some (.int a2), none], []) [])) else (jbO (K_m_wrong D 1 cx f g n b l t z) (jk D 154 12 ([some (.ref 79), some (.ref 83), some (.int a1), some (.int a2), none], []) []))) else (some (.inl (some (.int 0)), (jXt cx (jY f g n b l t), z))) := by
  refine (jev_blk 3 (pc' := if (f 9) = 0 then 5 else 3) (L' := ([some (.ref 79), some (.ref 83), some (.int a1), some (.int a2), none], [])) (S' := []) (h' := (jXt cx (jY f g n b l t), z)) rfl).trans (jev_ite.trans (jite_congr (fun _ => ?_) (fun _ => ?_)))
  · refine (jev_blk 4 (pc' := if (f 7) = 1 then 13 else 9) (L' := ([some (.ref 79), some (.ref 83), some (.int a1), some (.int a2), none], [])) (S' := []) (h' := (jXt cx (jY f g n b l t), z)) rfl).trans (jev_ite.trans (jite_congr (fun _ => ?_) (fun _ => ?_)))
    · refine (jev_blk 5 (pc' := 18) (L' := ([some (.ref 79), some (.ref 83), some (.int a1), some (.int a2), none], [])) (S' := [.int (f 8), .int a2, .int a1, .ref 83]) (h' := (jXt cx (jY f g n b l t), z)) rfl).trans ?_
      exact jev_callb (nx := 19) (rest := []) rfl
    · refine (jev_blk 2 (pc' := 11) (L' := ([some (.ref 79), some (.ref 83), some (.int a1), some (.int a2), none], [])) (S' := [.int 1, .ref 79]) (h' := (jXt cx (jY f g n b l t), z)) rfl).trans ?_
      exact jev_callb (nx := 12) (rest := []) rfl
  · refine (jev_blk 1 (pc' := 4) (L' := ([some (.ref 79), some (.ref 83), some (.int a1), some (.int a2), none], [])) (S' := [.int 0]) (h' := (jXt cx (jY f g n b l t), z)) rfl).trans ?_
    exact jev_fin rfl
set_option maxRecDepth 20000 in
theorem E_m_fresh_19 {D : Nat}  {d1 : Option Value} {d2 : Option Value} {d3 : Option Value} {d4 : Option Value} {u0 : Int32} {cx : jCX} {f : Nat → Int32} {g : Nat → Nat → Int32} {n : Nat → Nat → Int64} {b : Nat → Nat → Int32} {l : Nat → Int64} {t : List jE} {z : Nat × Nat × Nat × (Nat → Int32)}  : jev D 154 19 ([some (.ref 79), d1, d2, d3, d4], []) [.int u0] (jXt cx (jY f g n b l t), z) = if u0 = (-1) then (K_m_fresh_24 D d1 d2 d3 d4 cx f g n b l t z) else (jbO (K_m_wrong D 3 cx f g n b l t z) (jk D 154 24 ([some (.ref 79), d1, d2, d3, d4], []) [])) := by
  refine (jev_blk 2 (pc' := if u0 = (-1) then 24 else 21) (L' := ([some (.ref 79), d1, d2, d3, d4], [])) (S' := []) (h' := (jXt cx (jY f g n b l t), z)) rfl).trans (jev_ite.trans (jite_congr (fun _ => ?_) (fun _ => ?_)))
  · rfl
  · refine (jev_blk 2 (pc' := 23) (L' := ([some (.ref 79), d1, d2, d3, d4], [])) (S' := [.int 3, .ref 79]) (h' := (jXt cx (jY f g n b l t), z)) rfl).trans ?_
    exact jev_callb (nx := 24) (rest := []) rfl
set_option maxRecDepth 20000 in
theorem E_m_fresh_24 {D : Nat}  {d1 : Option Value} {d2 : Option Value} {d3 : Option Value} {d4 : Option Value} {cx : jCX} {f : Nat → Int32} {g : Nat → Nat → Int32} {n : Nat → Nat → Int64} {b : Nat → Nat → Int32} {l : Nat → Int64} {t : List jE} {z : Nat × Nat × Nat × (Nat → Int32)}  : K_m_fresh_24 D d1 d2 d3 d4 cx f g n b l t z = if (f 9) = 0 then (jbO (K_m_token D cx f g n b l t z) (jk D 154 34 ([some (.ref 79), d1, d2, d3, some (.int (f 8))], []) [])) else (some (.inl (some (.int 0)), (jXt cx (jY f g n b l t), z))) := by
  refine (jev_blk 3 (pc' := if (f 9) = 0 then 29 else 27) (L' := ([some (.ref 79), d1, d2, d3, d4], [])) (S' := []) (h' := (jXt cx (jY f g n b l t), z)) rfl).trans (jev_ite.trans (jite_congr (fun _ => ?_) (fun _ => ?_)))
  · refine (jev_blk 4 (pc' := 33) (L' := ([some (.ref 79), d1, d2, d3, some (.int (f 8))], [])) (S' := [.ref 79]) (h' := (jXt cx (jY f g n b l t), z)) rfl).trans ?_
    exact jev_callb (nx := 34) (rest := []) rfl
  · refine (jev_blk 1 (pc' := 28) (L' := ([some (.ref 79), d1, d2, d3, d4], [])) (S' := [.int 0]) (h' := (jXt cx (jY f g n b l t), z)) rfl).trans ?_
    exact jev_fin rfl
set_option maxRecDepth 20000 in
theorem E_m_fresh_12 {D : Nat}  {d1 : Option Value} {d2 : Option Value} {d3 : Option Value} {d4 : Option Value} {cx : jCX} {f : Nat → Int32} {g : Nat → Nat → Int32} {n : Nat → Nat → Int64} {b : Nat → Nat → Int32} {l : Nat → Int64} {t : List jE} {z : Nat × Nat × Nat × (Nat → Int32)}  : jev D 154 12 ([some (.ref 79), d1, d2, d3, d4], []) [] (jXt cx (jY f g n b l t), z) = K_m_fresh_24 D d1 d2 d3 d4 cx f g n b l t z := by
  exact jev_blk 1 rfl
theorem F_m_fresh_24 {D : Nat}  {d1 : Option Value} {d2 : Option Value} {d3 : Option Value} {d4 : Option Value} {cx : jCX} {f : Nat → Int32} {g : Nat → Nat → Int32} {n : Nat → Nat → Int64} {b : Nat → Nat → Int32} {l : Nat → Int64} {t : List jE} {z : Nat × Nat × Nat × (Nat → Int32)} : jev D 154 24 ([some (.ref 79), d1, d2, d3, d4], []) [] (jXt cx (jY f g n b l t), z) = K_m_fresh_24 D d1 d2 d3 d4 cx f g n b l t z := rfl
set_option maxRecDepth 20000 in
theorem E_m_fresh_34 {D : Nat}  {d1 : Option Value} {d2 : Option Value} {d3 : Option Value} {x4 : Int32} {cx : jCX} {f : Nat → Int32} {g : Nat → Nat → Int32} {n : Nat → Nat → Int64} {b : Nat → Nat → Int32} {l : Nat → Int64} {t : List jE} {z : Nat × Nat × Nat × (Nat → Int32)}  : jev D 154 34 ([some (.ref 79), d1, d2, d3, some (.int x4)], []) [] (jXt cx (jY f g n b l t), z) = some (.inl (some (.int x4)), (jXt cx (jY f g n b l t), z)) := by
  refine (jev_blk 1 (pc' := 35) (L' := ([some (.ref 79), d1, d2, d3, some (.int x4)], [])) (S' := [.int x4]) (h' := (jXt cx (jY f g n b l t), z)) rfl).trans ?_
  exact jev_fin rfl
set_option maxRecDepth 20000 in
theorem E_m_fresher {D : Nat}  {a0 : Int32} {cx : jCX} {f : Nat → Int32} {g : Nat → Nat → Int32} {n : Nat → Nat → Int64} {b : Nat → Nat → Int32} {l : Nat → Int64} {t : List jE} {z : Nat × Nat × Nat × (Nat → Int32)}  : K_m_fresher D a0 cx f g n b l t z = if jout (11 + a0) 22 then none else (some (.inl (some (.int (g 1 (11 + a0).toNatClampNeg))), (jXt cx (jY f g n b l t), z))) := by
  refine (jev_blk 5 (pc' := 5) (L' := ([some (.ref 79), some (.int a0)], [])) (S' := [.int (11 + a0), .ref 81]) (h' := (jXt cx (jY f g n b l t), z)) rfl).trans ?_
  refine (jev_grd (q := jout (11 + a0) 22) (pc' := 6) (L' := ([some (.ref 79), some (.int a0)], [])) (S' := [.int (g 1 (11 + a0).toNatClampNeg)]) (h' := (jXt cx (jY f g n b l t), z)) rfl).trans (jite_congr (fun _ => rfl) (fun _ => ?_))
  exact jev_fin rfl
set_option maxRecDepth 20000 in
theorem E_m_reads {D : Nat}  {a0 : Int32} {a1 : Int32} {cx : jCX} {f : Nat → Int32} {g : Nat → Nat → Int32} {n : Nat → Nat → Int64} {b : Nat → Nat → Int32} {l : Nat → Int64} {t : List jE} {z : Nat × Nat × Nat × (Nat → Int32)}  : K_m_reads D a0 a1 cx f g n b l t z = jev D 156 6 ([some (.ref 79), some (.int a0), some (.int a1)], []) [.int a1, .int (11 + a0), .ref 81] (jXt cx (jY f g n b l t), z) := by
  exact jev_blk 6 rfl
set_option maxRecDepth 20000 in
theorem E_m_reads_6 {D : Nat}  {d1 : Option Value} {d2 : Option Value} {u0 : Int32} {u1 : Int32} {cx : jCX} {f : Nat → Int32} {g : Nat → Nat → Int32} {n : Nat → Nat → Int64} {b : Nat → Nat → Int32} {l : Nat → Int64} {t : List jE} {z : Nat × Nat × Nat × (Nat → Int32)}  : jev D 156 6 ([some (.ref 79), d1, d2], []) [.int u0, .int u1, .ref 81] (jXt cx (jY f g n b l t), z) = if jout u1 22 then none else (some (.inl (none), (jXt cx (jY f (jup g 1 ((jup (g 1) (u1.toNatClampNeg) u0))) n b l t), z))) := by
  refine (jev_grd (q := jout u1 22) (pc' := 7) (L' := ([some (.ref 79), d1, d2], [])) (S' := []) (h' := (jXt cx (jY f (jup g 1 ((jup (g 1) (u1.toNatClampNeg) u0))) n b l t), z)) rfl).trans (jite_congr (fun _ => rfl) (fun _ => ?_))
  exact jev_fin rfl
set_option maxRecDepth 20000 in
theorem E_m_cellAtHand {D : Nat}   {cx : jCX} {f : Nat → Int32} {g : Nat → Nat → Int32} {n : Nat → Nat → Int64} {b : Nat → Nat → Int32} {l : Nat → Int64} {t : List jE} {z : Nat × Nat × Nat × (Nat → Int32)}  : K_m_cellAtHand D cx f g n b l t z = jbO (K_m_fresher D 0 cx f g n b l t z) (jk D 157 5 ([some (.ref 79), none], []) [.int 0, .ref 79]) := by
  refine (jev_blk 4 (pc' := 4) (L' := ([some (.ref 79), none], [])) (S' := [.int 0, .ref 79, .int 0, .ref 79]) (h' := (jXt cx (jY f g n b l t), z)) rfl).trans ?_
  exact jev_callb (nx := 5) (rest := [.int 0, .ref 79]) rfl
set_option maxRecDepth 20000 in
theorem E_m_cellAtHand_5 {D : Nat}  {d1 : Option Value} {u0 : Int32} {u1 : Int32} {cx : jCX} {f : Nat → Int32} {g : Nat → Nat → Int32} {n : Nat → Nat → Int64} {b : Nat → Nat → Int32} {l : Nat → Int64} {t : List jE} {z : Nat × Nat × Nat × (Nat → Int32)}  : jev D 157 5 ([some (.ref 79), d1], []) [.int u0, .int u1, .ref 79] (jXt cx (jY f g n b l t), z) = jbO (K_m_numeral D u1 (u0 - 1) cx f g n b l t z) (jk D 157 8 ([some (.ref 79), d1], []) []) := by
  refine (jev_blk 2 (pc' := 7) (L' := ([some (.ref 79), d1], [])) (S' := [.int (u0 - 1), .int u1, .ref 79]) (h' := (jXt cx (jY f g n b l t), z)) rfl).trans ?_
  exact jev_callb (nx := 8) (rest := []) rfl
set_option maxRecDepth 20000 in
theorem E_m_cellAtHand_8 {D : Nat}  {d1 : Option Value} {u0 : Int32} {cx : jCX} {f : Nat → Int32} {g : Nat → Nat → Int32} {n : Nat → Nat → Int64} {b : Nat → Nat → Int32} {l : Nat → Int64} {t : List jE} {z : Nat × Nat × Nat × (Nat → Int32)}  : jev D 157 8 ([some (.ref 79), d1], []) [.int u0] (jXt cx (jY f g n b l t), z) = if (f 9) = 0 then (if (f 7) = 2 then (K_m_cellAtHand_20 D u0 cx f g n b l t z) else (jbO (K_m_wrong D 1 cx f g n b l t z) (jk D 157 19 ([some (.ref 79), some (.int u0)], []) []))) else (K_m_cellAtHand_20 D u0 cx f g n b l t z) := by
  refine (jev_blk 4 (pc' := if (f 9) = 0 then 12 else 20) (L' := ([some (.ref 79), some (.int u0)], [])) (S' := []) (h' := (jXt cx (jY f g n b l t), z)) rfl).trans (jev_ite.trans (jite_congr (fun _ => ?_) (fun _ => ?_)))
  · refine (jev_blk 4 (pc' := if (f 7) = 2 then 20 else 16) (L' := ([some (.ref 79), some (.int u0)], [])) (S' := []) (h' := (jXt cx (jY f g n b l t), z)) rfl).trans (jev_ite.trans (jite_congr (fun _ => ?_) (fun _ => ?_)))
    · rfl
    · refine (jev_blk 2 (pc' := 18) (L' := ([some (.ref 79), some (.int u0)], [])) (S' := [.int 1, .ref 79]) (h' := (jXt cx (jY f g n b l t), z)) rfl).trans ?_
      exact jev_callb (nx := 19) (rest := []) rfl
  · rfl
set_option maxRecDepth 20000 in
theorem E_m_cellAtHand_20 {D : Nat}  {x1 : Int32} {cx : jCX} {f : Nat → Int32} {g : Nat → Nat → Int32} {n : Nat → Nat → Int64} {b : Nat → Nat → Int32} {l : Nat → Int64} {t : List jE} {z : Nat × Nat × Nat × (Nat → Int32)}  : K_m_cellAtHand_20 D x1 cx f g n b l t z = if (f 9) = 0 then (jbO (K_m_fresher D 1 cx f g n b l t z) (jk D 157 28 ([some (.ref 79), some (.int x1)], []) [.int (f 8)])) else (K_m_cellAtHand_32 D x1 cx f g n b l t z) := by
  refine (jev_blk 3 (pc' := if (f 9) = 0 then 23 else 32) (L' := ([some (.ref 79), some (.int x1)], [])) (S' := []) (h' := (jXt cx (jY f g n b l t), z)) rfl).trans (jev_ite.trans (jite_congr (fun _ => ?_) (fun _ => ?_)))
  · refine (jev_blk 4 (pc' := 27) (L' := ([some (.ref 79), some (.int x1)], [])) (S' := [.int 1, .ref 79, .int (f 8)]) (h' := (jXt cx (jY f g n b l t), z)) rfl).trans ?_
    exact jev_callb (nx := 28) (rest := [.int (f 8)]) rfl
  · rfl
set_option maxRecDepth 20000 in
theorem E_m_cellAtHand_32 {D : Nat}  {x1 : Int32} {cx : jCX} {f : Nat → Int32} {g : Nat → Nat → Int32} {n : Nat → Nat → Int64} {b : Nat → Nat → Int32} {l : Nat → Int64} {t : List jE} {z : Nat × Nat × Nat × (Nat → Int32)}  : K_m_cellAtHand_32 D x1 cx f g n b l t z = if (f 9) = 0 then (jbO (K_m_fresher D 0 cx f g n b l t z) (jk D 157 42 ([some (.ref 79), some (.int x1)], []) [.int (f 8)])) else (some (.inl (some (.int 0)), (jXt cx (jY f g n b l t), z))) := by
  refine (jev_blk 3 (pc' := if (f 9) = 0 then 37 else 35) (L' := ([some (.ref 79), some (.int x1)], [])) (S' := []) (h' := (jXt cx (jY f g n b l t), z)) rfl).trans (jev_ite.trans (jite_congr (fun _ => ?_) (fun _ => ?_)))
  · refine (jev_blk 4 (pc' := 41) (L' := ([some (.ref 79), some (.int x1)], [])) (S' := [.int 0, .ref 79, .int (f 8)]) (h' := (jXt cx (jY f g n b l t), z)) rfl).trans ?_
    exact jev_callb (nx := 42) (rest := [.int (f 8)]) rfl
  · refine (jev_blk 2 (pc' := 45) (L' := ([some (.ref 79), some (.int x1)], [])) (S' := [.int 0]) (h' := (jXt cx (jY f g n b l t), z)) rfl).trans ?_
    exact jev_fin rfl
set_option maxRecDepth 20000 in
theorem E_m_cellAtHand_19 {D : Nat}  {x1 : Int32} {cx : jCX} {f : Nat → Int32} {g : Nat → Nat → Int32} {n : Nat → Nat → Int64} {b : Nat → Nat → Int32} {l : Nat → Int64} {t : List jE} {z : Nat × Nat × Nat × (Nat → Int32)}  : jev D 157 19 ([some (.ref 79), some (.int x1)], []) [] (jXt cx (jY f g n b l t), z) = K_m_cellAtHand_32 D x1 cx f g n b l t z := by
  exact jev_blk 1 rfl
set_option maxRecDepth 20000 in
theorem E_m_cellAtHand_28 {D : Nat}  {x1 : Int32} {u0 : Int32} {u1 : Int32} {cx : jCX} {f : Nat → Int32} {g : Nat → Nat → Int32} {n : Nat → Nat → Int64} {b : Nat → Nat → Int32} {l : Nat → Int64} {t : List jE} {z : Nat × Nat × Nat × (Nat → Int32)}  : jev D 157 28 ([some (.ref 79), some (.int x1)], []) [.int u0, .int u1] (jXt cx (jY f g n b l t), z) = if u1 < u0 then (K_m_cellAtHand_32 D x1 cx f g n b l t z) else (jbO (K_m_wrong D 2 cx f g n b l t z) (jk D 157 32 ([some (.ref 79), some (.int x1)], []) [])) := by
  refine (jev_blk 1 (pc' := if u1 < u0 then 32 else 29) (L' := ([some (.ref 79), some (.int x1)], [])) (S' := []) (h' := (jXt cx (jY f g n b l t), z)) rfl).trans (jev_ite.trans (jite_congr (fun _ => ?_) (fun _ => ?_)))
  · rfl
  · refine (jev_blk 2 (pc' := 31) (L' := ([some (.ref 79), some (.int x1)], [])) (S' := [.int 2, .ref 79]) (h' := (jXt cx (jY f g n b l t), z)) rfl).trans ?_
    exact jev_callb (nx := 32) (rest := []) rfl
set_option maxRecDepth 20000 in
theorem E_m_cellAtHand_42 {D : Nat}  {x1 : Int32} {u0 : Int32} {u1 : Int32} {cx : jCX} {f : Nat → Int32} {g : Nat → Nat → Int32} {n : Nat → Nat → Int64} {b : Nat → Nat → Int32} {l : Nat → Int64} {t : List jE} {z : Nat × Nat × Nat × (Nat → Int32)}  : jev D 157 42 ([some (.ref 79), some (.int x1)], []) [.int u0, .int u1] (jXt cx (jY f g n b l t), z) = some (.inl (some (.int ((u1 * u0) + x1))), (jXt cx (jY f g n b l t), z)) := by
  refine (jev_blk 3 (pc' := 45) (L' := ([some (.ref 79), some (.int x1)], [])) (S' := [.int ((u1 * u0) + x1)]) (h' := (jXt cx (jY f g n b l t), z)) rfl).trans ?_
  exact jev_fin rfl
theorem F_m_cellAtHand_32 {D : Nat}  {x1 : Int32} {cx : jCX} {f : Nat → Int32} {g : Nat → Nat → Int32} {n : Nat → Nat → Int64} {b : Nat → Nat → Int32} {l : Nat → Int64} {t : List jE} {z : Nat × Nat × Nat × (Nat → Int32)} : jev D 157 32 ([some (.ref 79), some (.int x1)], []) [] (jXt cx (jY f g n b l t), z) = K_m_cellAtHand_32 D x1 cx f g n b l t z := rfl
set_option maxRecDepth 20000 in
theorem E_m_isFull {D : Nat}  {a0 : Int32} {cx : jCX} {f : Nat → Int32} {g : Nat → Nat → Int32} {n : Nat → Nat → Int64} {b : Nat → Nat → Int32} {l : Nat → Int64} {t : List jE} {z : Nat × Nat × Nat × (Nat → Int32)}  : K_m_isFull D a0 cx f g n b l t z = if a0 = 1 then (jbO (K_m_fresher D 10 cx f g n b l t z) (jk D 158 6 ([some (.ref 79), some (.int a0)], []) [])) else (K_m_isFull_8 D a0 cx f g n b l t z) := by
  refine (jev_blk 3 (pc' := if a0 = 1 then 3 else 8) (L' := ([some (.ref 79), some (.int a0)], [])) (S' := []) (h' := (jXt cx (jY f g n b l t), z)) rfl).trans (jev_ite.trans (jite_congr (fun _ => ?_) (fun _ => ?_)))
  · refine (jev_blk 2 (pc' := 5) (L' := ([some (.ref 79), some (.int a0)], [])) (S' := [.int 10, .ref 79]) (h' := (jXt cx (jY f g n b l t), z)) rfl).trans ?_
    exact jev_callb (nx := 6) (rest := []) rfl
  · rfl
set_option maxRecDepth 20000 in
theorem E_m_isFull_8 {D : Nat}  {x1 : Int32} {cx : jCX} {f : Nat → Int32} {g : Nat → Nat → Int32} {n : Nat → Nat → Int64} {b : Nat → Nat → Int32} {l : Nat → Int64} {t : List jE} {z : Nat × Nat × Nat × (Nat → Int32)}  : K_m_isFull_8 D x1 cx f g n b l t z = if x1 = 2 then (jbO (K_m_fresher D 2 cx f g n b l t z) (jk D 158 14 ([some (.ref 79), some (.int x1)], []) [])) else (K_m_isFull_16 D x1 cx f g n b l t z) := by
  refine (jev_blk 3 (pc' := if x1 = 2 then 11 else 16) (L' := ([some (.ref 79), some (.int x1)], [])) (S' := []) (h' := (jXt cx (jY f g n b l t), z)) rfl).trans (jev_ite.trans (jite_congr (fun _ => ?_) (fun _ => ?_)))
  · refine (jev_blk 2 (pc' := 13) (L' := ([some (.ref 79), some (.int x1)], [])) (S' := [.int 2, .ref 79]) (h' := (jXt cx (jY f g n b l t), z)) rfl).trans ?_
    exact jev_callb (nx := 14) (rest := []) rfl
  · rfl
set_option maxRecDepth 20000 in
theorem E_m_isFull_16 {D : Nat}  {x1 : Int32} {cx : jCX} {f : Nat → Int32} {g : Nat → Nat → Int32} {n : Nat → Nat → Int64} {b : Nat → Nat → Int32} {l : Nat → Int64} {t : List jE} {z : Nat × Nat × Nat × (Nat → Int32)}  : K_m_isFull_16 D x1 cx f g n b l t z = if x1 = 3 then (jbO (K_m_fresher D 3 cx f g n b l t z) (jk D 158 22 ([some (.ref 79), some (.int x1)], []) [])) else (K_m_isFull_24 D x1 cx f g n b l t z) := by
  refine (jev_blk 3 (pc' := if x1 = 3 then 19 else 24) (L' := ([some (.ref 79), some (.int x1)], [])) (S' := []) (h' := (jXt cx (jY f g n b l t), z)) rfl).trans (jev_ite.trans (jite_congr (fun _ => ?_) (fun _ => ?_)))
  · refine (jev_blk 2 (pc' := 21) (L' := ([some (.ref 79), some (.int x1)], [])) (S' := [.int 3, .ref 79]) (h' := (jXt cx (jY f g n b l t), z)) rfl).trans ?_
    exact jev_callb (nx := 22) (rest := []) rfl
  · rfl
set_option maxRecDepth 20000 in
theorem E_m_isFull_24 {D : Nat}  {x1 : Int32} {cx : jCX} {f : Nat → Int32} {g : Nat → Nat → Int32} {n : Nat → Nat → Int64} {b : Nat → Nat → Int32} {l : Nat → Int64} {t : List jE} {z : Nat × Nat × Nat × (Nat → Int32)}  : K_m_isFull_24 D x1 cx f g n b l t z = if x1 = 6 then (jbO (K_m_fresher D 6 cx f g n b l t z) (jk D 158 30 ([some (.ref 79), some (.int x1)], []) [])) else (some (.inl (some (.int 0)), (jXt cx (jY f g n b l t), z))) := by
  refine (jev_blk 3 (pc' := if x1 = 6 then 27 else 34) (L' := ([some (.ref 79), some (.int x1)], [])) (S' := []) (h' := (jXt cx (jY f g n b l t), z)) rfl).trans (jev_ite.trans (jite_congr (fun _ => ?_) (fun _ => ?_)))
  · refine (jev_blk 2 (pc' := 29) (L' := ([some (.ref 79), some (.int x1)], [])) (S' := [.int 6, .ref 79]) (h' := (jXt cx (jY f g n b l t), z)) rfl).trans ?_
    exact jev_callb (nx := 30) (rest := []) rfl
  · refine (jev_blk 1 (pc' := 35) (L' := ([some (.ref 79), some (.int x1)], [])) (S' := [.int 0]) (h' := (jXt cx (jY f g n b l t), z)) rfl).trans ?_
    exact jev_fin rfl
set_option maxRecDepth 20000 in
theorem E_m_isFull_6 {D : Nat}  {x1 : Int32} {u0 : Int32} {cx : jCX} {f : Nat → Int32} {g : Nat → Nat → Int32} {n : Nat → Nat → Int64} {b : Nat → Nat → Int32} {l : Nat → Int64} {t : List jE} {z : Nat × Nat × Nat × (Nat → Int32)}  : jev D 158 6 ([some (.ref 79), some (.int x1)], []) [.int u0] (jXt cx (jY f g n b l t), z) = if u0 = 16 then (some (.inl (some (.int 1)), (jXt cx (jY f g n b l t), z))) else (K_m_isFull_8 D x1 cx f g n b l t z) := by
  refine (jev_blk 2 (pc' := if u0 = 16 then 32 else 8) (L' := ([some (.ref 79), some (.int x1)], [])) (S' := []) (h' := (jXt cx (jY f g n b l t), z)) rfl).trans (jev_ite.trans (jite_congr (fun _ => ?_) (fun _ => ?_)))
  · refine (jev_blk 2 (pc' := 35) (L' := ([some (.ref 79), some (.int x1)], [])) (S' := [.int 1]) (h' := (jXt cx (jY f g n b l t), z)) rfl).trans ?_
    exact jev_fin rfl
  · rfl
set_option maxRecDepth 20000 in
theorem E_m_isFull_14 {D : Nat}  {x1 : Int32} {u0 : Int32} {cx : jCX} {f : Nat → Int32} {g : Nat → Nat → Int32} {n : Nat → Nat → Int64} {b : Nat → Nat → Int32} {l : Nat → Int64} {t : List jE} {z : Nat × Nat × Nat × (Nat → Int32)}  : jev D 158 14 ([some (.ref 79), some (.int x1)], []) [.int u0] (jXt cx (jY f g n b l t), z) = if u0 = 6 then (some (.inl (some (.int 1)), (jXt cx (jY f g n b l t), z))) else (K_m_isFull_16 D x1 cx f g n b l t z) := by
  refine (jev_blk 2 (pc' := if u0 = 6 then 32 else 16) (L' := ([some (.ref 79), some (.int x1)], [])) (S' := []) (h' := (jXt cx (jY f g n b l t), z)) rfl).trans (jev_ite.trans (jite_congr (fun _ => ?_) (fun _ => ?_)))
  · refine (jev_blk 2 (pc' := 35) (L' := ([some (.ref 79), some (.int x1)], [])) (S' := [.int 1]) (h' := (jXt cx (jY f g n b l t), z)) rfl).trans ?_
    exact jev_fin rfl
  · rfl
set_option maxRecDepth 20000 in
theorem E_m_isFull_22 {D : Nat}  {x1 : Int32} {u0 : Int32} {cx : jCX} {f : Nat → Int32} {g : Nat → Nat → Int32} {n : Nat → Nat → Int64} {b : Nat → Nat → Int32} {l : Nat → Int64} {t : List jE} {z : Nat × Nat × Nat × (Nat → Int32)}  : jev D 158 22 ([some (.ref 79), some (.int x1)], []) [.int u0] (jXt cx (jY f g n b l t), z) = if u0 = 10 then (some (.inl (some (.int 1)), (jXt cx (jY f g n b l t), z))) else (K_m_isFull_24 D x1 cx f g n b l t z) := by
  refine (jev_blk 2 (pc' := if u0 = 10 then 32 else 24) (L' := ([some (.ref 79), some (.int x1)], [])) (S' := []) (h' := (jXt cx (jY f g n b l t), z)) rfl).trans (jev_ite.trans (jite_congr (fun _ => ?_) (fun _ => ?_)))
  · refine (jev_blk 2 (pc' := 35) (L' := ([some (.ref 79), some (.int x1)], [])) (S' := [.int 1]) (h' := (jXt cx (jY f g n b l t), z)) rfl).trans ?_
    exact jev_fin rfl
  · rfl
set_option maxRecDepth 20000 in
theorem E_m_isFull_30 {D : Nat}  {d1 : Option Value} {u0 : Int32} {cx : jCX} {f : Nat → Int32} {g : Nat → Nat → Int32} {n : Nat → Nat → Int64} {b : Nat → Nat → Int32} {l : Nat → Int64} {t : List jE} {z : Nat × Nat × Nat × (Nat → Int32)}  : jev D 158 30 ([some (.ref 79), d1], []) [.int u0] (jXt cx (jY f g n b l t), z) = if u0 = 14 then (some (.inl (some (.int 1)), (jXt cx (jY f g n b l t), z))) else (some (.inl (some (.int 0)), (jXt cx (jY f g n b l t), z))) := by
  refine (jev_blk 2 (pc' := if u0 = 14 then 32 else 34) (L' := ([some (.ref 79), d1], [])) (S' := []) (h' := (jXt cx (jY f g n b l t), z)) rfl).trans (jev_ite.trans (jite_congr (fun _ => ?_) (fun _ => ?_)))
  · refine (jev_blk 2 (pc' := 35) (L' := ([some (.ref 79), d1], [])) (S' := [.int 1]) (h' := (jXt cx (jY f g n b l t), z)) rfl).trans ?_
    exact jev_fin rfl
  · refine (jev_blk 1 (pc' := 35) (L' := ([some (.ref 79), d1], [])) (S' := [.int 0]) (h' := (jXt cx (jY f g n b l t), z)) rfl).trans ?_
    exact jev_fin rfl
set_option maxRecDepth 20000 in
theorem E_m_isOnce {D : Nat}  {a0 : Int32} {cx : jCX} {f : Nat → Int32} {g : Nat → Nat → Int32} {n : Nat → Nat → Int64} {b : Nat → Nat → Int32} {l : Nat → Int64} {t : List jE} {z : Nat × Nat × Nat × (Nat → Int32)}  : K_m_isOnce D a0 cx f g n b l t z = if a0 = 0 then (some (.inl (some (.int 1)), (jXt cx (jY f g n b l t), z))) else (if a0 = 4 then (some (.inl (some (.int 1)), (jXt cx (jY f g n b l t), z))) else (if a0 = 5 then (some (.inl (some (.int 1)), (jXt cx (jY f g n b l t), z))) else (if a0 = 7 then (some (.inl (some (.int 1)), (jXt cx (jY f g n b l t), z))) else (if a0 = 8 then (some (.inl (some (.int 1)), (jXt cx (jY f g n b l t), z))) else (some (.inl (some (.int 0)), (jXt cx (jY f g n b l t), z))))))) := by
  refine (jev_blk 2 (pc' := if a0 = 0 then 14 else 2) (L' := ([some (.int a0)], [])) (S' := []) (h' := (jXt cx (jY f g n b l t), z)) rfl).trans (jev_ite.trans (jite_congr (fun _ => ?_) (fun _ => ?_)))
  · refine (jev_blk 2 (pc' := 17) (L' := ([some (.int a0)], [])) (S' := [.int 1]) (h' := (jXt cx (jY f g n b l t), z)) rfl).trans ?_
    exact jev_fin rfl
  · refine (jev_blk 3 (pc' := if a0 = 4 then 14 else 5) (L' := ([some (.int a0)], [])) (S' := []) (h' := (jXt cx (jY f g n b l t), z)) rfl).trans (jev_ite.trans (jite_congr (fun _ => ?_) (fun _ => ?_)))
    · refine (jev_blk 2 (pc' := 17) (L' := ([some (.int a0)], [])) (S' := [.int 1]) (h' := (jXt cx (jY f g n b l t), z)) rfl).trans ?_
      exact jev_fin rfl
    · refine (jev_blk 3 (pc' := if a0 = 5 then 14 else 8) (L' := ([some (.int a0)], [])) (S' := []) (h' := (jXt cx (jY f g n b l t), z)) rfl).trans (jev_ite.trans (jite_congr (fun _ => ?_) (fun _ => ?_)))
      · refine (jev_blk 2 (pc' := 17) (L' := ([some (.int a0)], [])) (S' := [.int 1]) (h' := (jXt cx (jY f g n b l t), z)) rfl).trans ?_
        exact jev_fin rfl
      · refine (jev_blk 3 (pc' := if a0 = 7 then 14 else 11) (L' := ([some (.int a0)], [])) (S' := []) (h' := (jXt cx (jY f g n b l t), z)) rfl).trans (jev_ite.trans (jite_congr (fun _ => ?_) (fun _ => ?_)))
        · refine (jev_blk 2 (pc' := 17) (L' := ([some (.int a0)], [])) (S' := [.int 1]) (h' := (jXt cx (jY f g n b l t), z)) rfl).trans ?_
          exact jev_fin rfl
        · refine (jev_blk 3 (pc' := if a0 = 8 then 14 else 16) (L' := ([some (.int a0)], [])) (S' := []) (h' := (jXt cx (jY f g n b l t), z)) rfl).trans (jev_ite.trans (jite_congr (fun _ => ?_) (fun _ => ?_)))
          · refine (jev_blk 2 (pc' := 17) (L' := ([some (.int a0)], [])) (S' := [.int 1]) (h' := (jXt cx (jY f g n b l t), z)) rfl).trans ?_
            exact jev_fin rfl
          · refine (jev_blk 1 (pc' := 17) (L' := ([some (.int a0)], [])) (S' := [.int 0]) (h' := (jXt cx (jY f g n b l t), z)) rfl).trans ?_
            exact jev_fin rfl
set_option maxRecDepth 20000 in
theorem E_m_line {D : Nat}   {cx : jCX} {f : Nat → Int32} {g : Nat → Nat → Int32} {n : Nat → Nat → Int64} {b : Nat → Nat → Int32} {l : Nat → Int64} {t : List jE} {z : Nat × Nat × Nat × (Nat → Int32)}  : K_m_line D cx f g n b l t z = if (f 7) = 0 then (if 9 < (f 8) then (K_m_line_7 D none cx f g n b l t z) else (jbO (K_m_isFull D (f 8) cx f g n b l t z) (jk D 160 17 ([some (.ref 79), some (.int (f 8))], []) []))) else (K_m_line_7 D none cx f g n b l t z) := by
  refine (jev_blk 3 (pc' := if (f 7) = 0 then 3 else 7) (L' := ([some (.ref 79), none], [])) (S' := []) (h' := (jXt cx (jY f g n b l t), z)) rfl).trans (jev_ite.trans (jite_congr (fun _ => ?_) (fun _ => ?_)))
  · refine (jev_blk 4 (pc' := if 9 < (f 8) then 7 else 11) (L' := ([some (.ref 79), none], [])) (S' := []) (h' := (jXt cx (jY f g n b l t), z)) rfl).trans (jev_ite.trans (jite_congr (fun _ => ?_) (fun _ => ?_)))
    · rfl
    · refine (jev_blk 5 (pc' := 16) (L' := ([some (.ref 79), some (.int (f 8))], [])) (S' := [.int (f 8), .ref 79]) (h' := (jXt cx (jY f g n b l t), z)) rfl).trans ?_
      exact jev_callb (nx := 17) (rest := []) rfl
  · rfl
set_option maxRecDepth 20000 in
theorem E_m_line_7 {D : Nat}  {d1 : Option Value} {cx : jCX} {f : Nat → Int32} {g : Nat → Nat → Int32} {n : Nat → Nat → Int64} {b : Nat → Nat → Int32} {l : Nat → Int64} {t : List jE} {z : Nat × Nat × Nat × (Nat → Int32)}  : K_m_line_7 D d1 cx f g n b l t z = jbO (K_m_wrong D 1 cx f g n b l t z) (jk D 160 10 ([some (.ref 79), d1], []) []) := by
  refine (jev_blk 2 (pc' := 9) (L' := ([some (.ref 79), d1], [])) (S' := [.int 1, .ref 79]) (h' := (jXt cx (jY f g n b l t), z)) rfl).trans ?_
  exact jev_callb (nx := 10) (rest := []) rfl
set_option maxRecDepth 20000 in
theorem E_m_line_17 {D : Nat}  {x1 : Int32} {u0 : Int32} {cx : jCX} {f : Nat → Int32} {g : Nat → Nat → Int32} {n : Nat → Nat → Int64} {b : Nat → Nat → Int32} {l : Nat → Int64} {t : List jE} {z : Nat × Nat × Nat × (Nat → Int32)}  : jev D 160 17 ([some (.ref 79), some (.int x1)], []) [.int u0] (jXt cx (jY f g n b l t), z) = if u0 = 0 then (jbO (K_m_isOnce D x1 cx f g n b l t z) (jk D 160 24 ([some (.ref 79), some (.int x1)], []) [])) else (jbO (K_m_wrong D 2 cx f g n b l t z) (jk D 160 21 ([some (.ref 79), some (.int x1)], []) [])) := by
  refine (jev_blk 1 (pc' := if u0 = 0 then 22 else 18) (L' := ([some (.ref 79), some (.int x1)], [])) (S' := []) (h' := (jXt cx (jY f g n b l t), z)) rfl).trans (jev_ite.trans (jite_congr (fun _ => ?_) (fun _ => ?_)))
  · refine (jev_blk 1 (pc' := 23) (L' := ([some (.ref 79), some (.int x1)], [])) (S' := [.int x1]) (h' := (jXt cx (jY f g n b l t), z)) rfl).trans ?_
    exact jev_callb (nx := 24) (rest := []) rfl
  · refine (jev_blk 2 (pc' := 20) (L' := ([some (.ref 79), some (.int x1)], [])) (S' := [.int 2, .ref 79]) (h' := (jXt cx (jY f g n b l t), z)) rfl).trans ?_
    exact jev_callb (nx := 21) (rest := []) rfl
set_option maxRecDepth 20000 in
theorem E_m_line_10 {D : Nat}  {d1 : Option Value} {cx : jCX} {f : Nat → Int32} {g : Nat → Nat → Int32} {n : Nat → Nat → Int64} {b : Nat → Nat → Int32} {l : Nat → Int64} {t : List jE} {z : Nat × Nat × Nat × (Nat → Int32)}  : jev D 160 10 ([some (.ref 79), d1], []) [] (jXt cx (jY f g n b l t), z) = some (.inl (none), (jXt cx (jY f g n b l t), z)) := by
  exact jev_fin rfl
set_option maxRecDepth 20000 in
theorem E_m_line_24 {D : Nat}  {x1 : Int32} {u0 : Int32} {cx : jCX} {f : Nat → Int32} {g : Nat → Nat → Int32} {n : Nat → Nat → Int64} {b : Nat → Nat → Int32} {l : Nat → Int64} {t : List jE} {z : Nat × Nat × Nat × (Nat → Int32)}  : jev D 160 24 ([some (.ref 79), some (.int x1)], []) [.int u0] (jXt cx (jY f g n b l t), z) = if u0 = 0 then (K_m_line_37 D x1 cx f g n b l t z) else (if (((f 2) >>> (x1 &&& 31)) &&& 1) = 1 then (jbO (K_m_wrong D 3 cx f g n b l t z) (jk D 160 36 ([some (.ref 79), some (.int x1)], []) [])) else (K_m_line_37 D x1 cx f g n b l t z)) := by
  refine (jev_blk 1 (pc' := if u0 = 0 then 37 else 25) (L' := ([some (.ref 79), some (.int x1)], [])) (S' := []) (h' := (jXt cx (jY f g n b l t), z)) rfl).trans (jev_ite.trans (jite_congr (fun _ => ?_) (fun _ => ?_)))
  · rfl
  · refine (jev_blk 8 (pc' := if (((f 2) >>> (x1 &&& 31)) &&& 1) = 1 then 33 else 37) (L' := ([some (.ref 79), some (.int x1)], [])) (S' := []) (h' := (jXt cx (jY f g n b l t), z)) rfl).trans (jev_ite.trans (jite_congr (fun _ => ?_) (fun _ => ?_)))
    · refine (jev_blk 2 (pc' := 35) (L' := ([some (.ref 79), some (.int x1)], [])) (S' := [.int 3, .ref 79]) (h' := (jXt cx (jY f g n b l t), z)) rfl).trans ?_
      exact jev_callb (nx := 36) (rest := []) rfl
    · rfl
set_option maxRecDepth 20000 in
theorem E_m_line_37 {D : Nat}  {x1 : Int32} {cx : jCX} {f : Nat → Int32} {g : Nat → Nat → Int32} {n : Nat → Nat → Int64} {b : Nat → Nat → Int32} {l : Nat → Int64} {t : List jE} {z : Nat × Nat × Nat × (Nat → Int32)}  : K_m_line_37 D x1 cx f g n b l t z = if x1 = 0 then (if (((f 2) >>> (1 &&& 31)) &&& 3) = 0 then (K_m_line_49 D x1 cx f g n b l t z) else (jbO (K_m_wrong D 4 cx f g n b l t z) (jk D 160 49 ([some (.ref 79), some (.int x1)], []) []))) else (K_m_line_49 D x1 cx f g n b l t z) := by
  refine (jev_blk 2 (pc' := if x1 = 0 then 39 else 49) (L' := ([some (.ref 79), some (.int x1)], [])) (S' := []) (h' := (jXt cx (jY f g n b l t), z)) rfl).trans (jev_ite.trans (jite_congr (fun _ => ?_) (fun _ => ?_)))
  · refine (jev_blk 7 (pc' := if (((f 2) >>> (1 &&& 31)) &&& 3) = 0 then 49 else 46) (L' := ([some (.ref 79), some (.int x1)], [])) (S' := []) (h' := (jXt cx (jY f g n b l t), z)) rfl).trans (jev_ite.trans (jite_congr (fun _ => ?_) (fun _ => ?_)))
    · rfl
    · refine (jev_blk 2 (pc' := 48) (L' := ([some (.ref 79), some (.int x1)], [])) (S' := [.int 4, .ref 79]) (h' := (jXt cx (jY f g n b l t), z)) rfl).trans ?_
      exact jev_callb (nx := 49) (rest := []) rfl
  · rfl
set_option maxRecDepth 20000 in
theorem E_m_line_49 {D : Nat}  {x1 : Int32} {cx : jCX} {f : Nat → Int32} {g : Nat → Nat → Int32} {n : Nat → Nat → Int64} {b : Nat → Nat → Int32} {l : Nat → Int64} {t : List jE} {z : Nat × Nat × Nat × (Nat → Int32)}  : K_m_line_49 D x1 cx f g n b l t z = if (f 9) = 0 then (jbO (K_m_token D cx (jup f 2 (((f 2) ||| (1 <<< (x1 &&& 31))))) g n b l t z) (jk D 160 63 ([some (.ref 79), some (.int x1)], []) [])) else (some (.inl (none), (jXt cx (jY f g n b l t), z))) := by
  refine (jev_blk 3 (pc' := if (f 9) = 0 then 53 else 52) (L' := ([some (.ref 79), some (.int x1)], [])) (S' := []) (h' := (jXt cx (jY f g n b l t), z)) rfl).trans (jev_ite.trans (jite_congr (fun _ => ?_) (fun _ => ?_)))
  · refine (jev_blk 9 (pc' := 62) (L' := ([some (.ref 79), some (.int x1)], [])) (S' := [.ref 79]) (h' := (jXt cx (jY (jup f 2 (((f 2) ||| (1 <<< (x1 &&& 31))))) g n b l t), z)) rfl).trans ?_
    exact jev_callb (nx := 63) (rest := []) rfl
  · exact jev_fin rfl
set_option maxRecDepth 20000 in
theorem E_m_line_21 {D : Nat}  {x1 : Int32} {cx : jCX} {f : Nat → Int32} {g : Nat → Nat → Int32} {n : Nat → Nat → Int64} {b : Nat → Nat → Int32} {l : Nat → Int64} {t : List jE} {z : Nat × Nat × Nat × (Nat → Int32)}  : jev D 160 21 ([some (.ref 79), some (.int x1)], []) [] (jXt cx (jY f g n b l t), z) = K_m_line_49 D x1 cx f g n b l t z := by
  exact jev_blk 1 rfl
set_option maxRecDepth 20000 in
theorem E_m_line_36 {D : Nat}  {x1 : Int32} {cx : jCX} {f : Nat → Int32} {g : Nat → Nat → Int32} {n : Nat → Nat → Int64} {b : Nat → Nat → Int32} {l : Nat → Int64} {t : List jE} {z : Nat × Nat × Nat × (Nat → Int32)}  : jev D 160 36 ([some (.ref 79), some (.int x1)], []) [] (jXt cx (jY f g n b l t), z) = K_m_line_49 D x1 cx f g n b l t z := by
  exact jev_blk 1 rfl
theorem F_m_line_49 {D : Nat}  {x1 : Int32} {cx : jCX} {f : Nat → Int32} {g : Nat → Nat → Int32} {n : Nat → Nat → Int64} {b : Nat → Nat → Int32} {l : Nat → Int64} {t : List jE} {z : Nat × Nat × Nat × (Nat → Int32)} : jev D 160 49 ([some (.ref 79), some (.int x1)], []) [] (jXt cx (jY f g n b l t), z) = K_m_line_49 D x1 cx f g n b l t z := rfl
set_option maxRecDepth 20000 in
theorem E_m_line_63 {D : Nat}  {x1 : Int32} {cx : jCX} {f : Nat → Int32} {g : Nat → Nat → Int32} {n : Nat → Nat → Int64} {b : Nat → Nat → Int32} {l : Nat → Int64} {t : List jE} {z : Nat × Nat × Nat × (Nat → Int32)}  : jev D 160 63 ([some (.ref 79), some (.int x1)], []) [] (jXt cx (jY f g n b l t), z) = if x1 = 0 then (jbO (K_m_numeral D 1 6 cx f g n b l t z) (jk D 160 71 ([some (.ref 79), some (.int x1)], []) [.int 0, .ref 79])) else (if x1 = 1 then (jbO (K_m_cropLine D cx f g n b l t z) (jk D 160 82 ([some (.ref 79), some (.int x1)], []) [])) else (if x1 = 2 then (jbO (K_m_fresher D 2 cx f g n b l t z) (jk D 160 88 ([some (.ref 79), some (.int x1)], []) [.int 6, .ref 79])) else (if x1 = 3 then (jbO (K_m_flapLine D cx f g n b l t z) (jk D 160 93 ([some (.ref 79), some (.int x1)], []) [])) else (if x1 = 4 then (jbO (K_m_numeral D 0 12 cx f g n b l t z) (jk D 160 100 ([some (.ref 79), some (.int x1)], []) [.int 4, .ref 79])) else (if x1 = 5 then (jbO (K_m_numeral D 0 99 cx f g n b l t z) (jk D 160 108 ([some (.ref 79), some (.int x1)], []) [.int 5, .ref 79])) else (if x1 = 6 then (jbO (K_m_fresher D 6 cx f g n b l t z) (jk D 160 116 ([some (.ref 79), some (.int x1)], []) [.int 14, .ref 89])) else (if x1 = 7 then (jbO (K_m_numeral D 0 10 cx f g n b l t z) (jk D 160 137 ([some (.ref 79), some (.int x1)], []) [.int 7, .ref 79])) else (if x1 = 8 then (jbO (K_m_numeral D 0 99999 cx f g n b l t z) (jk D 160 145 ([some (.ref 79), some (.int x1)], []) [.int 8, .ref 79])) else (jbO (K_m_lawLine D cx f g n b l t z) (jk D 160 149 ([some (.ref 79), some (.int x1)], []) [])))))))))) := by
  refine (jev_blk 2 (pc' := if x1 = 0 then 65 else if x1 = 1 then 80 else if x1 = 2 then 83 else if x1 = 3 then 91 else if x1 = 4 then 94 else if x1 = 5 then 102 else if x1 = 6 then 110 else if x1 = 7 then 131 else if x1 = 8 then 139 else 147) (L' := ([some (.ref 79), some (.int x1)], [])) (S' := []) (h' := (jXt cx (jY f g n b l t), z)) rfl).trans ?_
  refine jev_ite.trans (jite_congr (fun _ => ?_) (fun _ => ?_))
  · refine (jev_blk 5 (pc' := 70) (L' := ([some (.ref 79), some (.int x1)], [])) (S' := [.int 6, .int 1, .ref 79, .int 0, .ref 79]) (h' := (jXt cx (jY f g n b l t), z)) rfl).trans ?_
    exact jev_callb (nx := 71) (rest := [.int 0, .ref 79]) rfl
  · refine jev_ite.trans (jite_congr (fun _ => ?_) (fun _ => ?_))
    · refine (jev_blk 1 (pc' := 81) (L' := ([some (.ref 79), some (.int x1)], [])) (S' := [.ref 79]) (h' := (jXt cx (jY f g n b l t), z)) rfl).trans ?_
      exact jev_callb (nx := 82) (rest := []) rfl
    · refine jev_ite.trans (jite_congr (fun _ => ?_) (fun _ => ?_))
      · refine (jev_blk 4 (pc' := 87) (L' := ([some (.ref 79), some (.int x1)], [])) (S' := [.int 2, .ref 79, .int 6, .ref 79]) (h' := (jXt cx (jY f g n b l t), z)) rfl).trans ?_
        exact jev_callb (nx := 88) (rest := [.int 6, .ref 79]) rfl
      · refine jev_ite.trans (jite_congr (fun _ => ?_) (fun _ => ?_))
        · refine (jev_blk 1 (pc' := 92) (L' := ([some (.ref 79), some (.int x1)], [])) (S' := [.ref 79]) (h' := (jXt cx (jY f g n b l t), z)) rfl).trans ?_
          exact jev_callb (nx := 93) (rest := []) rfl
        · refine jev_ite.trans (jite_congr (fun _ => ?_) (fun _ => ?_))
          · refine (jev_blk 5 (pc' := 99) (L' := ([some (.ref 79), some (.int x1)], [])) (S' := [.int 12, .int 0, .ref 79, .int 4, .ref 79]) (h' := (jXt cx (jY f g n b l t), z)) rfl).trans ?_
            exact jev_callb (nx := 100) (rest := [.int 4, .ref 79]) rfl
          · refine jev_ite.trans (jite_congr (fun _ => ?_) (fun _ => ?_))
            · refine (jev_blk 5 (pc' := 107) (L' := ([some (.ref 79), some (.int x1)], [])) (S' := [.int 99, .int 0, .ref 79, .int 5, .ref 79]) (h' := (jXt cx (jY f g n b l t), z)) rfl).trans ?_
              exact jev_callb (nx := 108) (rest := [.int 5, .ref 79]) rfl
            · refine jev_ite.trans (jite_congr (fun _ => ?_) (fun _ => ?_))
              · refine (jev_blk 5 (pc' := 115) (L' := ([some (.ref 79), some (.int x1)], [])) (S' := [.int 6, .ref 79, .int 14, .ref 89]) (h' := (jXt cx (jY f g n b l t), z)) rfl).trans ?_
                exact jev_callb (nx := 116) (rest := [.int 14, .ref 89]) rfl
              · refine jev_ite.trans (jite_congr (fun _ => ?_) (fun _ => ?_))
                · refine (jev_blk 5 (pc' := 136) (L' := ([some (.ref 79), some (.int x1)], [])) (S' := [.int 10, .int 0, .ref 79, .int 7, .ref 79]) (h' := (jXt cx (jY f g n b l t), z)) rfl).trans ?_
                  exact jev_callb (nx := 137) (rest := [.int 7, .ref 79]) rfl
                · refine jev_ite.trans (jite_congr (fun _ => ?_) (fun _ => ?_))
                  · refine (jev_blk 5 (pc' := 144) (L' := ([some (.ref 79), some (.int x1)], [])) (S' := [.int 99999, .int 0, .ref 79, .int 8, .ref 79]) (h' := (jXt cx (jY f g n b l t), z)) rfl).trans ?_
                    exact jev_callb (nx := 145) (rest := [.int 8, .ref 79]) rfl
                  · refine (jev_blk 1 (pc' := 148) (L' := ([some (.ref 79), some (.int x1)], [])) (S' := [.ref 79]) (h' := (jXt cx (jY f g n b l t), z)) rfl).trans ?_
                    exact jev_callb (nx := 149) (rest := []) rfl
set_option maxRecDepth 20000 in
theorem E_m_line_71 {D : Nat}  {d1 : Option Value} {u0 : Int32} {u1 : Int32} {cx : jCX} {f : Nat → Int32} {g : Nat → Nat → Int32} {n : Nat → Nat → Int64} {b : Nat → Nat → Int32} {l : Nat → Int64} {t : List jE} {z : Nat × Nat × Nat × (Nat → Int32)}  : jev D 160 71 ([some (.ref 79), d1], []) [.int u0, .int u1, .ref 79] (jXt cx (jY f g n b l t), z) = jbO (K_m_reads D u1 u0 cx f g n b l t z) (jk D 160 72 ([some (.ref 79), d1], []) []) := by
  exact jev_callb (nx := 72) (rest := []) rfl
set_option maxRecDepth 20000 in
theorem E_m_line_82 {D : Nat}  {d1 : Option Value} {cx : jCX} {f : Nat → Int32} {g : Nat → Nat → Int32} {n : Nat → Nat → Int64} {b : Nat → Nat → Int32} {l : Nat → Int64} {t : List jE} {z : Nat × Nat × Nat × (Nat → Int32)}  : jev D 160 82 ([some (.ref 79), d1], []) [] (jXt cx (jY f g n b l t), z) = K_m_line_149 D d1 cx f g n b l t z := by
  exact jev_blk 1 rfl
set_option maxRecDepth 20000 in
theorem E_m_line_149 {D : Nat}  {d1 : Option Value} {cx : jCX} {f : Nat → Int32} {g : Nat → Nat → Int32} {n : Nat → Nat → Int64} {b : Nat → Nat → Int32} {l : Nat → Int64} {t : List jE} {z : Nat × Nat × Nat × (Nat → Int32)}  : K_m_line_149 D d1 cx f g n b l t z = if (f 9) = 0 then (jbO (K_m_isSign D 59 cx f g n b l t z) (jk D 160 156 ([some (.ref 79), d1], []) [])) else (some (.inl (none), (jXt cx (jY f g n b l t), z))) := by
  refine (jev_blk 3 (pc' := if (f 9) = 0 then 153 else 152) (L' := ([some (.ref 79), d1], [])) (S' := []) (h' := (jXt cx (jY f g n b l t), z)) rfl).trans (jev_ite.trans (jite_congr (fun _ => ?_) (fun _ => ?_)))
  · refine (jev_blk 2 (pc' := 155) (L' := ([some (.ref 79), d1], [])) (S' := [.int 59, .ref 79]) (h' := (jXt cx (jY f g n b l t), z)) rfl).trans ?_
    exact jev_callb (nx := 156) (rest := []) rfl
  · exact jev_fin rfl
set_option maxRecDepth 20000 in
theorem E_m_line_88 {D : Nat}  {d1 : Option Value} {u0 : Int32} {u1 : Int32} {cx : jCX} {f : Nat → Int32} {g : Nat → Nat → Int32} {n : Nat → Nat → Int64} {b : Nat → Nat → Int32} {l : Nat → Int64} {t : List jE} {z : Nat × Nat × Nat × (Nat → Int32)}  : jev D 160 88 ([some (.ref 79), d1], []) [.int u0, .int u1, .ref 79] (jXt cx (jY f g n b l t), z) = jbO (K_m_scareLine D (u1 + u0) cx f g n b l t z) (jk D 160 90 ([some (.ref 79), d1], []) []) := by
  refine (jev_blk 1 (pc' := 89) (L' := ([some (.ref 79), d1], [])) (S' := [.int (u1 + u0), .ref 79]) (h' := (jXt cx (jY f g n b l t), z)) rfl).trans ?_
  exact jev_callb (nx := 90) (rest := []) rfl
set_option maxRecDepth 20000 in
theorem E_m_line_93 {D : Nat}  {d1 : Option Value} {cx : jCX} {f : Nat → Int32} {g : Nat → Nat → Int32} {n : Nat → Nat → Int64} {b : Nat → Nat → Int32} {l : Nat → Int64} {t : List jE} {z : Nat × Nat × Nat × (Nat → Int32)}  : jev D 160 93 ([some (.ref 79), d1], []) [] (jXt cx (jY f g n b l t), z) = K_m_line_149 D d1 cx f g n b l t z := by
  exact jev_blk 1 rfl
set_option maxRecDepth 20000 in
theorem E_m_line_100 {D : Nat}  {d1 : Option Value} {u0 : Int32} {u1 : Int32} {cx : jCX} {f : Nat → Int32} {g : Nat → Nat → Int32} {n : Nat → Nat → Int64} {b : Nat → Nat → Int32} {l : Nat → Int64} {t : List jE} {z : Nat × Nat × Nat × (Nat → Int32)}  : jev D 160 100 ([some (.ref 79), d1], []) [.int u0, .int u1, .ref 79] (jXt cx (jY f g n b l t), z) = jbO (K_m_reads D u1 u0 cx f g n b l t z) (jk D 160 101 ([some (.ref 79), d1], []) []) := by
  exact jev_callb (nx := 101) (rest := []) rfl
set_option maxRecDepth 20000 in
theorem E_m_line_108 {D : Nat}  {d1 : Option Value} {u0 : Int32} {u1 : Int32} {cx : jCX} {f : Nat → Int32} {g : Nat → Nat → Int32} {n : Nat → Nat → Int64} {b : Nat → Nat → Int32} {l : Nat → Int64} {t : List jE} {z : Nat × Nat × Nat × (Nat → Int32)}  : jev D 160 108 ([some (.ref 79), d1], []) [.int u0, .int u1, .ref 79] (jXt cx (jY f g n b l t), z) = jbO (K_m_reads D u1 u0 cx f g n b l t z) (jk D 160 109 ([some (.ref 79), d1], []) []) := by
  exact jev_callb (nx := 109) (rest := []) rfl
set_option maxRecDepth 20000 in
theorem E_m_line_116 {D : Nat}  {d1 : Option Value} {u0 : Int32} {u1 : Int32} {cx : jCX} {f : Nat → Int32} {g : Nat → Nat → Int32} {n : Nat → Nat → Int64} {b : Nat → Nat → Int32} {l : Nat → Int64} {t : List jE} {z : Nat × Nat × Nat × (Nat → Int32)}  : jev D 160 116 ([some (.ref 79), d1], []) [.int u0, .int u1, .ref 89] (jXt cx (jY f g n b l t), z) = jbO (K_m_numeral D 0 9 cx f g n b l t z) (jk D 160 121 ([some (.ref 79), d1], []) [.int (u1 + u0), .ref 89]) := by
  refine (jev_blk 4 (pc' := 120) (L' := ([some (.ref 79), d1], [])) (S' := [.int 9, .int 0, .ref 79, .int (u1 + u0), .ref 89]) (h' := (jXt cx (jY f g n b l t), z)) rfl).trans ?_
  exact jev_callb (nx := 121) (rest := [.int (u1 + u0), .ref 89]) rfl
set_option maxRecDepth 20000 in
theorem E_m_line_137 {D : Nat}  {d1 : Option Value} {u0 : Int32} {u1 : Int32} {cx : jCX} {f : Nat → Int32} {g : Nat → Nat → Int32} {n : Nat → Nat → Int64} {b : Nat → Nat → Int32} {l : Nat → Int64} {t : List jE} {z : Nat × Nat × Nat × (Nat → Int32)}  : jev D 160 137 ([some (.ref 79), d1], []) [.int u0, .int u1, .ref 79] (jXt cx (jY f g n b l t), z) = jbO (K_m_reads D u1 u0 cx f g n b l t z) (jk D 160 138 ([some (.ref 79), d1], []) []) := by
  exact jev_callb (nx := 138) (rest := []) rfl
set_option maxRecDepth 20000 in
theorem E_m_line_145 {D : Nat}  {d1 : Option Value} {u0 : Int32} {u1 : Int32} {cx : jCX} {f : Nat → Int32} {g : Nat → Nat → Int32} {n : Nat → Nat → Int64} {b : Nat → Nat → Int32} {l : Nat → Int64} {t : List jE} {z : Nat × Nat × Nat × (Nat → Int32)}  : jev D 160 145 ([some (.ref 79), d1], []) [.int u0, .int u1, .ref 79] (jXt cx (jY f g n b l t), z) = jbO (K_m_reads D u1 u0 cx f g n b l t z) (jk D 160 146 ([some (.ref 79), d1], []) []) := by
  exact jev_callb (nx := 146) (rest := []) rfl
theorem F_m_line_149 {D : Nat}  {d1 : Option Value} {cx : jCX} {f : Nat → Int32} {g : Nat → Nat → Int32} {n : Nat → Nat → Int64} {b : Nat → Nat → Int32} {l : Nat → Int64} {t : List jE} {z : Nat × Nat × Nat × (Nat → Int32)} : jev D 160 149 ([some (.ref 79), d1], []) [] (jXt cx (jY f g n b l t), z) = K_m_line_149 D d1 cx f g n b l t z := rfl
set_option maxRecDepth 20000 in
theorem E_m_line_72 {D : Nat}  {d1 : Option Value} {cx : jCX} {f : Nat → Int32} {g : Nat → Nat → Int32} {n : Nat → Nat → Int64} {b : Nat → Nat → Int32} {l : Nat → Int64} {t : List jE} {z : Nat × Nat × Nat × (Nat → Int32)}  : jev D 160 72 ([some (.ref 79), d1], []) [] (jXt cx (jY f g n b l t), z) = jbO (K_m_numeral D 1 5 cx f g n b l t z) (jk D 160 78 ([some (.ref 79), d1], []) [.int 1, .ref 79]) := by
  refine (jev_blk 5 (pc' := 77) (L' := ([some (.ref 79), d1], [])) (S' := [.int 5, .int 1, .ref 79, .int 1, .ref 79]) (h' := (jXt cx (jY f g n b l t), z)) rfl).trans ?_
  exact jev_callb (nx := 78) (rest := [.int 1, .ref 79]) rfl
set_option maxRecDepth 20000 in
theorem E_m_line_156 {D : Nat}  {d1 : Option Value} {u0 : Int32} {cx : jCX} {f : Nat → Int32} {g : Nat → Nat → Int32} {n : Nat → Nat → Int64} {b : Nat → Nat → Int32} {l : Nat → Int64} {t : List jE} {z : Nat × Nat × Nat × (Nat → Int32)}  : jev D 160 156 ([some (.ref 79), d1], []) [.int u0] (jXt cx (jY f g n b l t), z) = if u0 = 0 then (jbO (K_m_wrong D 1 cx f g n b l t z) (jk D 160 160 ([some (.ref 79), d1], []) [])) else (jbO (K_m_token D cx f g n b l t z) (jk D 160 163 ([some (.ref 79), d1], []) [])) := by
  refine (jev_blk 1 (pc' := if u0 = 0 then 157 else 161) (L' := ([some (.ref 79), d1], [])) (S' := []) (h' := (jXt cx (jY f g n b l t), z)) rfl).trans (jev_ite.trans (jite_congr (fun _ => ?_) (fun _ => ?_)))
  · refine (jev_blk 2 (pc' := 159) (L' := ([some (.ref 79), d1], [])) (S' := [.int 1, .ref 79]) (h' := (jXt cx (jY f g n b l t), z)) rfl).trans ?_
    exact jev_callb (nx := 160) (rest := []) rfl
  · refine (jev_blk 1 (pc' := 162) (L' := ([some (.ref 79), d1], [])) (S' := [.ref 79]) (h' := (jXt cx (jY f g n b l t), z)) rfl).trans ?_
    exact jev_callb (nx := 163) (rest := []) rfl
set_option maxRecDepth 20000 in
theorem E_m_line_90 {D : Nat}  {d1 : Option Value} {cx : jCX} {f : Nat → Int32} {g : Nat → Nat → Int32} {n : Nat → Nat → Int64} {b : Nat → Nat → Int32} {l : Nat → Int64} {t : List jE} {z : Nat × Nat × Nat × (Nat → Int32)}  : jev D 160 90 ([some (.ref 79), d1], []) [] (jXt cx (jY f g n b l t), z) = K_m_line_149 D d1 cx f g n b l t z := by
  exact jev_blk 1 rfl
set_option maxRecDepth 20000 in
theorem E_m_line_101 {D : Nat}  {d1 : Option Value} {cx : jCX} {f : Nat → Int32} {g : Nat → Nat → Int32} {n : Nat → Nat → Int64} {b : Nat → Nat → Int32} {l : Nat → Int64} {t : List jE} {z : Nat × Nat × Nat × (Nat → Int32)}  : jev D 160 101 ([some (.ref 79), d1], []) [] (jXt cx (jY f g n b l t), z) = K_m_line_149 D d1 cx f g n b l t z := by
  exact jev_blk 1 rfl
set_option maxRecDepth 20000 in
theorem E_m_line_109 {D : Nat}  {d1 : Option Value} {cx : jCX} {f : Nat → Int32} {g : Nat → Nat → Int32} {n : Nat → Nat → Int64} {b : Nat → Nat → Int32} {l : Nat → Int64} {t : List jE} {z : Nat × Nat × Nat × (Nat → Int32)}  : jev D 160 109 ([some (.ref 79), d1], []) [] (jXt cx (jY f g n b l t), z) = K_m_line_149 D d1 cx f g n b l t z := by
  exact jev_blk 1 rfl
set_option maxRecDepth 20000 in
theorem E_m_line_121 {D : Nat}  {d1 : Option Value} {u0 : Int32} {u1 : Int32} {cx : jCX} {f : Nat → Int32} {g : Nat → Nat → Int32} {n : Nat → Nat → Int64} {b : Nat → Nat → Int32} {l : Nat → Int64} {t : List jE} {z : Nat × Nat × Nat × (Nat → Int32)}  : jev D 160 121 ([some (.ref 79), d1], []) [.int u0, .int u1, .ref 89] (jXt cx (jY f g n b l t), z) = if jout u1 28 then none else (jbO (K_m_fresher D 6 cx f (jup g 9 ((jup (g 9) (u1.toNatClampNeg) u0))) n b l t z) (jk D 160 127 ([some (.ref 79), d1], []) [.int 6, .ref 79])) := by
  refine (jev_grd (q := jout u1 28) (pc' := 122) (L' := ([some (.ref 79), d1], [])) (S' := []) (h' := (jXt cx (jY f (jup g 9 ((jup (g 9) (u1.toNatClampNeg) u0))) n b l t), z)) rfl).trans (jite_congr (fun _ => rfl) (fun _ => ?_))
  refine (jev_blk 4 (pc' := 126) (L' := ([some (.ref 79), d1], [])) (S' := [.int 6, .ref 79, .int 6, .ref 79]) (h' := (jXt cx (jY f (jup g 9 ((jup (g 9) (u1.toNatClampNeg) u0))) n b l t), z)) rfl).trans ?_
  exact jev_callb (nx := 127) (rest := [.int 6, .ref 79]) rfl
set_option maxRecDepth 20000 in
theorem E_m_line_138 {D : Nat}  {d1 : Option Value} {cx : jCX} {f : Nat → Int32} {g : Nat → Nat → Int32} {n : Nat → Nat → Int64} {b : Nat → Nat → Int32} {l : Nat → Int64} {t : List jE} {z : Nat × Nat × Nat × (Nat → Int32)}  : jev D 160 138 ([some (.ref 79), d1], []) [] (jXt cx (jY f g n b l t), z) = K_m_line_149 D d1 cx f g n b l t z := by
  exact jev_blk 1 rfl
set_option maxRecDepth 20000 in
theorem E_m_line_146 {D : Nat}  {d1 : Option Value} {cx : jCX} {f : Nat → Int32} {g : Nat → Nat → Int32} {n : Nat → Nat → Int64} {b : Nat → Nat → Int32} {l : Nat → Int64} {t : List jE} {z : Nat × Nat × Nat × (Nat → Int32)}  : jev D 160 146 ([some (.ref 79), d1], []) [] (jXt cx (jY f g n b l t), z) = K_m_line_149 D d1 cx f g n b l t z := by
  exact jev_blk 1 rfl
set_option maxRecDepth 20000 in
theorem E_m_line_78 {D : Nat}  {d1 : Option Value} {u0 : Int32} {u1 : Int32} {cx : jCX} {f : Nat → Int32} {g : Nat → Nat → Int32} {n : Nat → Nat → Int64} {b : Nat → Nat → Int32} {l : Nat → Int64} {t : List jE} {z : Nat × Nat × Nat × (Nat → Int32)}  : jev D 160 78 ([some (.ref 79), d1], []) [.int u0, .int u1, .ref 79] (jXt cx (jY f g n b l t), z) = jbO (K_m_reads D u1 u0 cx f g n b l t z) (jk D 160 79 ([some (.ref 79), d1], []) []) := by
  exact jev_callb (nx := 79) (rest := []) rfl
set_option maxRecDepth 20000 in
theorem E_m_line_160 {D : Nat}  {d1 : Option Value} {cx : jCX} {f : Nat → Int32} {g : Nat → Nat → Int32} {n : Nat → Nat → Int64} {b : Nat → Nat → Int32} {l : Nat → Int64} {t : List jE} {z : Nat × Nat × Nat × (Nat → Int32)}  : jev D 160 160 ([some (.ref 79), d1], []) [] (jXt cx (jY f g n b l t), z) = K_m_line_163 D d1 cx f g n b l t z := by
  exact jev_blk 1 rfl
set_option maxRecDepth 20000 in
theorem E_m_line_163 {D : Nat}  {d1 : Option Value} {cx : jCX} {f : Nat → Int32} {g : Nat → Nat → Int32} {n : Nat → Nat → Int64} {b : Nat → Nat → Int32} {l : Nat → Int64} {t : List jE} {z : Nat × Nat × Nat × (Nat → Int32)}  : K_m_line_163 D d1 cx f g n b l t z = some (.inl (none), (jXt cx (jY (jup f 3 (((f 3) + 1))) g n b l t), z)) := by
  refine (jev_blk 6 (pc' := 169) (L' := ([some (.ref 79), d1], [])) (S' := []) (h' := (jXt cx (jY (jup f 3 (((f 3) + 1))) g n b l t), z)) rfl).trans ?_
  exact jev_fin rfl
theorem F_m_line_163 {D : Nat}  {d1 : Option Value} {cx : jCX} {f : Nat → Int32} {g : Nat → Nat → Int32} {n : Nat → Nat → Int64} {b : Nat → Nat → Int32} {l : Nat → Int64} {t : List jE} {z : Nat × Nat × Nat × (Nat → Int32)} : jev D 160 163 ([some (.ref 79), d1], []) [] (jXt cx (jY f g n b l t), z) = K_m_line_163 D d1 cx f g n b l t z := rfl
set_option maxRecDepth 20000 in
theorem E_m_line_127 {D : Nat}  {d1 : Option Value} {u0 : Int32} {u1 : Int32} {cx : jCX} {f : Nat → Int32} {g : Nat → Nat → Int32} {n : Nat → Nat → Int64} {b : Nat → Nat → Int32} {l : Nat → Int64} {t : List jE} {z : Nat × Nat × Nat × (Nat → Int32)}  : jev D 160 127 ([some (.ref 79), d1], []) [.int u0, .int u1, .ref 79] (jXt cx (jY f g n b l t), z) = jbO (K_m_reads D u1 (u0 + 1) cx f g n b l t z) (jk D 160 130 ([some (.ref 79), d1], []) []) := by
  refine (jev_blk 2 (pc' := 129) (L' := ([some (.ref 79), d1], [])) (S' := [.int (u0 + 1), .int u1, .ref 79]) (h' := (jXt cx (jY f g n b l t), z)) rfl).trans ?_
  exact jev_callb (nx := 130) (rest := []) rfl
set_option maxRecDepth 20000 in
theorem E_m_line_79 {D : Nat}  {d1 : Option Value} {cx : jCX} {f : Nat → Int32} {g : Nat → Nat → Int32} {n : Nat → Nat → Int64} {b : Nat → Nat → Int32} {l : Nat → Int64} {t : List jE} {z : Nat × Nat × Nat × (Nat → Int32)}  : jev D 160 79 ([some (.ref 79), d1], []) [] (jXt cx (jY f g n b l t), z) = K_m_line_149 D d1 cx f g n b l t z := by
  exact jev_blk 1 rfl
set_option maxRecDepth 20000 in
theorem E_m_line_130 {D : Nat}  {d1 : Option Value} {cx : jCX} {f : Nat → Int32} {g : Nat → Nat → Int32} {n : Nat → Nat → Int64} {b : Nat → Nat → Int32} {l : Nat → Int64} {t : List jE} {z : Nat × Nat × Nat × (Nat → Int32)}  : jev D 160 130 ([some (.ref 79), d1], []) [] (jXt cx (jY f g n b l t), z) = K_m_line_149 D d1 cx f g n b l t z := by
  exact jev_blk 1 rfl
set_option maxRecDepth 20000 in
theorem E_m_cropLine {D : Nat}   {cx : jCX} {f : Nat → Int32} {g : Nat → Nat → Int32} {n : Nat → Nat → Int64} {b : Nat → Nat → Int32} {l : Nat → Int64} {t : List jE} {z : Nat × Nat × Nat × (Nat → Int32)}  : K_m_cropLine D cx f g n b l t z = jbO (K_m_cellAtHand D cx f g n b l t z) (jk D 161 2 ([some (.ref 79), none, none], []) []) := by
  refine (jev_blk 1 (pc' := 1) (L' := ([some (.ref 79), none, none], [])) (S' := [.ref 79]) (h' := (jXt cx (jY f g n b l t), z)) rfl).trans ?_
  exact jev_callb (nx := 2) (rest := []) rfl
