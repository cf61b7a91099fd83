-- EQUATIONS: one a block; E_ unfolds, L_ a loop's head
set_option maxRecDepth 20000 in
theorem E_m_cropLine_2 {D : Nat}  {d1 : Option Value} {d2 : Option Value} {u0 : Int32} {cx : jCX} {f : Nat → Int32} {g : Nat → Nat → Int32} {n : Nat → Nat → Int64} {b : Nat → Nat → Int32} {l : Nat → Int64} {t : List jE} {z : Nat × Nat × Nat × (Nat → Int32)}  : jev D 161 2 ([some (.ref 79), d1, d2], []) [.int u0] (jXt cx (jY f g n b l t), z) = if (f 9) = 0 then (if jout (30 + u0) 60 then none else (if 0 < (g 2 (30 + u0).toNatClampNeg) then (jbO (K_m_wrong D 3 cx f g n b l t z) (jk D 161 16 ([some (.ref 79), some (.int u0), d2], []) [])) else (K_m_cropLine_16 D u0 d2 cx f g n b l t z))) else (K_m_cropLine_16 D u0 d2 cx f g n b l t z) := by
  refine (jev_blk 4 (pc' := if (f 9) = 0 then 6 else 16) (L' := ([some (.ref 79), some (.int u0), d2], [])) (S' := []) (h' := (jXt cx (jY f g n b l t), z)) rfl).trans (jev_ite.trans (jite_congr (fun _ => ?_) (fun _ => ?_)))
  · refine (jev_blk 5 (pc' := 11) (L' := ([some (.ref 79), some (.int u0), d2], [])) (S' := [.int (30 + u0), .ref 82]) (h' := (jXt cx (jY f g n b l t), z)) rfl).trans ?_
    refine (jev_grd (q := jout (30 + u0) 60) (pc' := 12) (L' := ([some (.ref 79), some (.int u0), d2], [])) (S' := [.int (g 2 (30 + u0).toNatClampNeg)]) (h' := (jXt cx (jY f g n b l t), z)) rfl).trans (jite_congr (fun _ => rfl) (fun _ => ?_))
    refine (jev_blk 1 (pc' := if 0 < (g 2 (30 + u0).toNatClampNeg) then 13 else 16) (L' := ([some (.ref 79), some (.int u0), d2], [])) (S' := []) (h' := (jXt cx (jY f g n b l t), z)) rfl).trans (jev_ite.trans (jite_congr (fun _ => ?_) (fun _ => ?_)))
    · refine (jev_blk 2 (pc' := 15) (L' := ([some (.ref 79), some (.int u0), d2], [])) (S' := [.int 3, .ref 79]) (h' := (jXt cx (jY f g n b l t), z)) rfl).trans ?_
      exact jev_callb (nx := 16) (rest := []) rfl
    · rfl
  · rfl
set_option maxRecDepth 20000 in
theorem E_m_cropLine_16 {D : Nat}  {x1 : Int32} {d2 : Option Value} {cx : jCX} {f : Nat → Int32} {g : Nat → Nat → Int32} {n : Nat → Nat → Int64} {b : Nat → Nat → Int32} {l : Nat → Int64} {t : List jE} {z : Nat × Nat × Nat × (Nat → Int32)}  : K_m_cropLine_16 D x1 d2 cx f g n b l t z = jbO (K_m_goOn D cx f g n b l t z) (jk D 161 18 ([some (.ref 79), some (.int x1), d2], []) []) := by
  refine (jev_blk 1 (pc' := 17) (L' := ([some (.ref 79), some (.int x1), d2], [])) (S' := [.ref 79]) (h' := (jXt cx (jY f g n b l t), z)) rfl).trans ?_
  exact jev_callb (nx := 18) (rest := []) rfl
theorem F_m_cropLine_16 {D : Nat}  {x1 : Int32} {d2 : Option Value} {cx : jCX} {f : Nat → Int32} {g : Nat → Nat → Int32} {n : Nat → Nat → Int64} {b : Nat → Nat → Int32} {l : Nat → Int64} {t : List jE} {z : Nat × Nat × Nat × (Nat → Int32)} : jev D 161 16 ([some (.ref 79), some (.int x1), d2], []) [] (jXt cx (jY f g n b l t), z) = K_m_cropLine_16 D x1 d2 cx f g n b l t z := rfl
set_option maxRecDepth 20000 in
theorem E_m_cropLine_18 {D : Nat}  {x1 : Int32} {d2 : Option Value} {cx : jCX} {f : Nat → Int32} {g : Nat → Nat → Int32} {n : Nat → Nat → Int64} {b : Nat → Nat → Int32} {l : Nat → Int64} {t : List jE} {z : Nat × Nat × Nat × (Nat → Int32)}  : jev D 161 18 ([some (.ref 79), some (.int x1), d2], []) [] (jXt cx (jY f g n b l t), z) = jbO (K_m_numeral D 0 99 cx f g n b l t z) (jk D 161 22 ([some (.ref 79), some (.int x1), d2], []) []) := by
  refine (jev_blk 3 (pc' := 21) (L' := ([some (.ref 79), some (.int x1), d2], [])) (S' := [.int 99, .int 0, .ref 79]) (h' := (jXt cx (jY f g n b l t), z)) rfl).trans ?_
  exact jev_callb (nx := 22) (rest := []) rfl
set_option maxRecDepth 20000 in
theorem E_m_cropLine_22 {D : Nat}  {x1 : Int32} {d2 : Option Value} {u0 : Int32} {cx : jCX} {f : Nat → Int32} {g : Nat → Nat → Int32} {n : Nat → Nat → Int64} {b : Nat → Nat → Int32} {l : Nat → Int64} {t : List jE} {z : Nat × Nat × Nat × (Nat → Int32)}  : jev D 161 22 ([some (.ref 79), some (.int x1), d2], []) [.int u0] (jXt cx (jY f g n b l t), z) = if (f 9) = 0 then (jev D 161 35 ([some (.ref 79), some (.int x1), some (.int u0)], []) [.int (u0 + 1), .int (30 + x1), .ref 82] (jXt cx (jY f g n b l t), z)) else (some (.inl (none), (jXt cx (jY f g n b l t), z))) := by
  refine (jev_blk 4 (pc' := if (f 9) = 0 then 27 else 26) (L' := ([some (.ref 79), some (.int x1), some (.int u0)], [])) (S' := []) (h' := (jXt cx (jY f g n b l t), z)) rfl).trans (jev_ite.trans (jite_congr (fun _ => ?_) (fun _ => ?_)))
  · exact jev_blk 8 rfl
  · exact jev_fin rfl
set_option maxRecDepth 20000 in
theorem E_m_cropLine_35 {D : Nat}  {d1 : Option Value} {d2 : Option Value} {u0 : Int32} {u1 : Int32} {cx : jCX} {f : Nat → Int32} {g : Nat → Nat → Int32} {n : Nat → Nat → Int64} {b : Nat → Nat → Int32} {l : Nat → Int64} {t : List jE} {z : Nat × Nat × Nat × (Nat → Int32)}  : jev D 161 35 ([some (.ref 79), d1, d2], []) [.int u0, .int u1, .ref 82] (jXt cx (jY f g n b l t), z) = if jout u1 60 then none else (jbO (K_m_fresher D 10 cx f (jup g 2 ((jup (g 2) (u1.toNatClampNeg) u0))) n b l t z) (jk D 161 41 ([some (.ref 79), d1, d2], []) [.int 10, .ref 79])) := by
  refine (jev_grd (q := jout u1 60) (pc' := 36) (L' := ([some (.ref 79), d1, d2], [])) (S' := []) (h' := (jXt cx (jY f (jup g 2 ((jup (g 2) (u1.toNatClampNeg) u0))) n b l t), z)) rfl).trans (jite_congr (fun _ => rfl) (fun _ => ?_))
  refine (jev_blk 4 (pc' := 40) (L' := ([some (.ref 79), d1, d2], [])) (S' := [.int 10, .ref 79, .int 10, .ref 79]) (h' := (jXt cx (jY f (jup g 2 ((jup (g 2) (u1.toNatClampNeg) u0))) n b l t), z)) rfl).trans ?_
  exact jev_callb (nx := 41) (rest := [.int 10, .ref 79]) rfl
set_option maxRecDepth 20000 in
theorem E_m_cropLine_41 {D : Nat}  {d1 : Option Value} {d2 : Option Value} {u0 : Int32} {u1 : Int32} {cx : jCX} {f : Nat → Int32} {g : Nat → Nat → Int32} {n : Nat → Nat → Int64} {b : Nat → Nat → Int32} {l : Nat → Int64} {t : List jE} {z : Nat × Nat × Nat × (Nat → Int32)}  : jev D 161 41 ([some (.ref 79), d1, d2], []) [.int u0, .int u1, .ref 79] (jXt cx (jY f g n b l t), z) = jbO (K_m_reads D u1 (u0 + 1) cx f g n b l t z) (jk D 161 44 ([some (.ref 79), d1, d2], []) []) := by
  refine (jev_blk 2 (pc' := 43) (L' := ([some (.ref 79), d1, d2], [])) (S' := [.int (u0 + 1), .int u1, .ref 79]) (h' := (jXt cx (jY f g n b l t), z)) rfl).trans ?_
  exact jev_callb (nx := 44) (rest := []) rfl
set_option maxRecDepth 20000 in
theorem E_m_cropLine_44 {D : Nat}  {d1 : Option Value} {d2 : Option Value} {cx : jCX} {f : Nat → Int32} {g : Nat → Nat → Int32} {n : Nat → Nat → Int64} {b : Nat → Nat → Int32} {l : Nat → Int64} {t : List jE} {z : Nat × Nat × Nat × (Nat → Int32)}  : jev D 161 44 ([some (.ref 79), d1, d2], []) [] (jXt cx (jY f g n b l t), z) = some (.inl (none), (jXt cx (jY f g n b l t), z)) := by
  exact jev_fin rfl
set_option maxRecDepth 20000 in
theorem E_m_scareLine {D : Nat}  {a0 : Int32} {cx : jCX} {f : Nat → Int32} {g : Nat → Nat → Int32} {n : Nat → Nat → Int64} {b : Nat → Nat → Int32} {l : Nat → Int64} {t : List jE} {z : Nat × Nat × Nat × (Nat → Int32)}  : K_m_scareLine D a0 cx f g n b l t z = jbO (K_m_fresher D 2 cx f g n b l t z) (jk D 162 10 ([some (.ref 79), some (.int a0)], []) [.int 6, .ref 83, .ref 79, .int a0, .ref 83]) := by
  refine (jev_blk 9 (pc' := 9) (L' := ([some (.ref 79), some (.int a0)], [])) (S' := [.int 2, .ref 79, .int 6, .ref 83, .ref 79, .int a0, .ref 83]) (h' := (jXt cx (jY f g n b l t), z)) rfl).trans ?_
  exact jev_callb (nx := 10) (rest := [.int 6, .ref 83, .ref 79, .int a0, .ref 83]) rfl
set_option maxRecDepth 20000 in
theorem E_m_scareLine_10 {D : Nat}  {x1 : Int32} {u0 : Int32} {u1 : Int32} {u4 : Int32} {cx : jCX} {f : Nat → Int32} {g : Nat → Nat → Int32} {n : Nat → Nat → Int64} {b : Nat → Nat → Int32} {l : Nat → Int64} {t : List jE} {z : Nat × Nat × Nat × (Nat → Int32)}  : jev D 162 10 ([some (.ref 79), some (.int x1)], []) [.int u0, .int u1, .ref 83, .ref 79, .int u4, .ref 83] (jXt cx (jY f g n b l t), z) = jbO (K_m_fresh D u1 u0 cx f g n b l t z) (jk D 162 11 ([some (.ref 79), some (.int x1)], []) [.int u4, .ref 83]) := by
  exact jev_callb (nx := 11) (rest := [.int u4, .ref 83]) rfl
set_option maxRecDepth 20000 in
theorem E_m_scareLine_11 {D : Nat}  {x1 : Int32} {u0 : Int32} {u1 : Int32} {cx : jCX} {f : Nat → Int32} {g : Nat → Nat → Int32} {n : Nat → Nat → Int64} {b : Nat → Nat → Int32} {l : Nat → Int64} {t : List jE} {z : Nat × Nat × Nat × (Nat → Int32)}  : jev D 162 11 ([some (.ref 79), some (.int x1)], []) [.int u0, .int u1, .ref 83] (jXt cx (jY f g n b l t), z) = if jout u1 12 then none else (jbO (K_m_cellAtHand D cx f (jup g 3 ((jup (g 3) (u1.toNatClampNeg) u0))) n b l t z) (jk D 162 17 ([some (.ref 79), some (.int x1)], []) [.int x1, .ref 84])) := by
  refine (jev_grd (q := jout u1 12) (pc' := 12) (L' := ([some (.ref 79), some (.int x1)], [])) (S' := []) (h' := (jXt cx (jY f (jup g 3 ((jup (g 3) (u1.toNatClampNeg) u0))) n b l t), z)) rfl).trans (jite_congr (fun _ => rfl) (fun _ => ?_))
  refine (jev_blk 4 (pc' := 16) (L' := ([some (.ref 79), some (.int x1)], [])) (S' := [.ref 79, .int x1, .ref 84]) (h' := (jXt cx (jY f (jup g 3 ((jup (g 3) (u1.toNatClampNeg) u0))) n b l t), z)) rfl).trans ?_
  exact jev_callb (nx := 17) (rest := [.int x1, .ref 84]) rfl
set_option maxRecDepth 20000 in
theorem E_m_scareLine_17 {D : Nat}  {x1 : Int32} {u0 : Int32} {u1 : Int32} {cx : jCX} {f : Nat → Int32} {g : Nat → Nat → Int32} {n : Nat → Nat → Int64} {b : Nat → Nat → Int32} {l : Nat → Int64} {t : List jE} {z : Nat × Nat × Nat × (Nat → Int32)}  : jev D 162 17 ([some (.ref 79), some (.int x1)], []) [.int u0, .int u1, .ref 84] (jXt cx (jY f g n b l t), z) = if jout u1 12 then none else (jbO (K_m_goOn D cx f (jup g 4 ((jup (g 4) (u1.toNatClampNeg) u0))) n b l t z) (jk D 162 20 ([some (.ref 79), some (.int x1)], []) [])) := by
  refine (jev_grd (q := jout u1 12) (pc' := 18) (L' := ([some (.ref 79), some (.int x1)], [])) (S' := []) (h' := (jXt cx (jY f (jup g 4 ((jup (g 4) (u1.toNatClampNeg) u0))) n b l t), z)) rfl).trans (jite_congr (fun _ => rfl) (fun _ => ?_))
  refine (jev_blk 1 (pc' := 19) (L' := ([some (.ref 79), some (.int x1)], [])) (S' := [.ref 79]) (h' := (jXt cx (jY f (jup g 4 ((jup (g 4) (u1.toNatClampNeg) u0))) n b l t), z)) rfl).trans ?_
  exact jev_callb (nx := 20) (rest := []) rfl
set_option maxRecDepth 20000 in
theorem E_m_scareLine_20 {D : Nat}  {x1 : Int32} {cx : jCX} {f : Nat → Int32} {g : Nat → Nat → Int32} {n : Nat → Nat → Int64} {b : Nat → Nat → Int32} {l : Nat → Int64} {t : List jE} {z : Nat × Nat × Nat × (Nat → Int32)}  : jev D 162 20 ([some (.ref 79), some (.int x1)], []) [] (jXt cx (jY f g n b l t), z) = jbO (K_m_numeral D 0 9 cx f g n b l t z) (jk D 162 27 ([some (.ref 79), some (.int x1)], []) [.int x1, .ref 85]) := by
  refine (jev_blk 6 (pc' := 26) (L' := ([some (.ref 79), some (.int x1)], [])) (S' := [.int 9, .int 0, .ref 79, .int x1, .ref 85]) (h' := (jXt cx (jY f g n b l t), z)) rfl).trans ?_
  exact jev_callb (nx := 27) (rest := [.int x1, .ref 85]) rfl
set_option maxRecDepth 20000 in
theorem E_m_scareLine_27 {D : Nat}  {x1 : Int32} {u0 : Int32} {u1 : Int32} {cx : jCX} {f : Nat → Int32} {g : Nat → Nat → Int32} {n : Nat → Nat → Int64} {b : Nat → Nat → Int32} {l : Nat → Int64} {t : List jE} {z : Nat × Nat × Nat × (Nat → Int32)}  : jev D 162 27 ([some (.ref 79), some (.int x1)], []) [.int u0, .int u1, .ref 85] (jXt cx (jY f g n b l t), z) = if jout u1 12 then none else (jbO (K_m_numeral D 0 9 cx f (jup g 5 ((jup (g 5) (u1.toNatClampNeg) u0))) n b l t z) (jk D 162 35 ([some (.ref 79), some (.int x1)], []) [.int x1, .ref 86])) := by
  refine (jev_grd (q := jout u1 12) (pc' := 28) (L' := ([some (.ref 79), some (.int x1)], [])) (S' := []) (h' := (jXt cx (jY f (jup g 5 ((jup (g 5) (u1.toNatClampNeg) u0))) n b l t), z)) rfl).trans (jite_congr (fun _ => rfl) (fun _ => ?_))
  refine (jev_blk 6 (pc' := 34) (L' := ([some (.ref 79), some (.int x1)], [])) (S' := [.int 9, .int 0, .ref 79, .int x1, .ref 86]) (h' := (jXt cx (jY f (jup g 5 ((jup (g 5) (u1.toNatClampNeg) u0))) n b l t), z)) rfl).trans ?_
  exact jev_callb (nx := 35) (rest := [.int x1, .ref 86]) rfl
set_option maxRecDepth 20000 in
theorem E_m_scareLine_35 {D : Nat}  {x1 : Int32} {u0 : Int32} {u1 : Int32} {cx : jCX} {f : Nat → Int32} {g : Nat → Nat → Int32} {n : Nat → Nat → Int64} {b : Nat → Nat → Int32} {l : Nat → Int64} {t : List jE} {z : Nat × Nat × Nat × (Nat → Int32)}  : jev D 162 35 ([some (.ref 79), some (.int x1)], []) [.int u0, .int u1, .ref 86] (jXt cx (jY f g n b l t), z) = if jout u1 12 then none else (jbO (K_m_numeral D 0 9 cx f (jup g 6 ((jup (g 6) (u1.toNatClampNeg) u0))) n b l t z) (jk D 162 43 ([some (.ref 79), some (.int x1)], []) [.int x1, .ref 87])) := by
  refine (jev_grd (q := jout u1 12) (pc' := 36) (L' := ([some (.ref 79), some (.int x1)], [])) (S' := []) (h' := (jXt cx (jY f (jup g 6 ((jup (g 6) (u1.toNatClampNeg) u0))) n b l t), z)) rfl).trans (jite_congr (fun _ => rfl) (fun _ => ?_))
  refine (jev_blk 6 (pc' := 42) (L' := ([some (.ref 79), some (.int x1)], [])) (S' := [.int 9, .int 0, .ref 79, .int x1, .ref 87]) (h' := (jXt cx (jY f (jup g 6 ((jup (g 6) (u1.toNatClampNeg) u0))) n b l t), z)) rfl).trans ?_
  exact jev_callb (nx := 43) (rest := [.int x1, .ref 87]) rfl
set_option maxRecDepth 20000 in
theorem E_m_scareLine_43 {D : Nat}  {x1 : Int32} {u0 : Int32} {u1 : Int32} {cx : jCX} {f : Nat → Int32} {g : Nat → Nat → Int32} {n : Nat → Nat → Int64} {b : Nat → Nat → Int32} {l : Nat → Int64} {t : List jE} {z : Nat × Nat × Nat × (Nat → Int32)}  : jev D 162 43 ([some (.ref 79), some (.int x1)], []) [.int u0, .int u1, .ref 87] (jXt cx (jY f g n b l t), z) = if jout u1 12 then none else (jev D 162 48 ([some (.ref 79), some (.int x1)], []) [.int 0, .int x1, .ref 88] (jXt cx (jY f (jup g 7 ((jup (g 7) (u1.toNatClampNeg) u0))) n b l t), z)) := by
  refine (jev_grd (q := jout u1 12) (pc' := 44) (L' := ([some (.ref 79), some (.int x1)], [])) (S' := []) (h' := (jXt cx (jY f (jup g 7 ((jup (g 7) (u1.toNatClampNeg) u0))) n b l t), z)) rfl).trans (jite_congr (fun _ => rfl) (fun _ => ?_))
  exact jev_blk 4 rfl
set_option maxRecDepth 20000 in
theorem E_m_scareLine_48 {D : Nat}  {d1 : Option Value} {u0 : Int32} {u1 : Int32} {cx : jCX} {f : Nat → Int32} {g : Nat → Nat → Int32} {n : Nat → Nat → Int64} {b : Nat → Nat → Int32} {l : Nat → Int64} {t : List jE} {z : Nat × Nat × Nat × (Nat → Int32)}  : jev D 162 48 ([some (.ref 79), d1], []) [.int u0, .int u1, .ref 88] (jXt cx (jY f g n b l t), z) = if jout u1 12 then none else (jbO (K_m_fresher D 2 cx f (jup g 8 ((jup (g 8) (u1.toNatClampNeg) u0))) n b l t z) (jk D 162 54 ([some (.ref 79), d1], []) [.int 2, .ref 79])) := by
  refine (jev_grd (q := jout u1 12) (pc' := 49) (L' := ([some (.ref 79), d1], [])) (S' := []) (h' := (jXt cx (jY f (jup g 8 ((jup (g 8) (u1.toNatClampNeg) u0))) n b l t), z)) rfl).trans (jite_congr (fun _ => rfl) (fun _ => ?_))
  refine (jev_blk 4 (pc' := 53) (L' := ([some (.ref 79), d1], [])) (S' := [.int 2, .ref 79, .int 2, .ref 79]) (h' := (jXt cx (jY f (jup g 8 ((jup (g 8) (u1.toNatClampNeg) u0))) n b l t), z)) rfl).trans ?_
  exact jev_callb (nx := 54) (rest := [.int 2, .ref 79]) rfl
set_option maxRecDepth 20000 in
theorem E_m_scareLine_54 {D : Nat}  {d1 : Option Value} {u0 : Int32} {u1 : Int32} {cx : jCX} {f : Nat → Int32} {g : Nat → Nat → Int32} {n : Nat → Nat → Int64} {b : Nat → Nat → Int32} {l : Nat → Int64} {t : List jE} {z : Nat × Nat × Nat × (Nat → Int32)}  : jev D 162 54 ([some (.ref 79), d1], []) [.int u0, .int u1, .ref 79] (jXt cx (jY f g n b l t), z) = jbO (K_m_reads D u1 (u0 + 1) cx f g n b l t z) (jk D 162 57 ([some (.ref 79), d1], []) []) := by
  refine (jev_blk 2 (pc' := 56) (L' := ([some (.ref 79), d1], [])) (S' := [.int (u0 + 1), .int u1, .ref 79]) (h' := (jXt cx (jY f g n b l t), z)) rfl).trans ?_
  exact jev_callb (nx := 57) (rest := []) rfl
set_option maxRecDepth 20000 in
theorem E_m_scareLine_57 {D : Nat}  {d1 : Option Value} {cx : jCX} {f : Nat → Int32} {g : Nat → Nat → Int32} {n : Nat → Nat → Int64} {b : Nat → Nat → Int32} {l : Nat → Int64} {t : List jE} {z : Nat × Nat × Nat × (Nat → Int32)}  : jev D 162 57 ([some (.ref 79), d1], []) [] (jXt cx (jY f g n b l t), z) = some (.inl (none), (jXt cx (jY f g n b l t), z)) := by
  exact jev_fin rfl
set_option maxRecDepth 20000 in
theorem E_m_flapLine {D : Nat}   {cx : jCX} {f : Nat → Int32} {g : Nat → Nat → Int32} {n : Nat → Nat → Int64} {b : Nat → Nat → Int32} {l : Nat → Int64} {t : List jE} {z : Nat × Nat × Nat × (Nat → Int32)}  : K_m_flapLine D cx f g n b l t z = if (f 7) = 1 then (jbO (K_m_fresher D 2 cx f g n b l t z) (jk D 163 14 ([some (.ref 79), none, none, none, none], []) [.int 6, .ref 83])) else (jbO (K_m_wrong D 1 cx f g n b l t z) (jk D 163 7 ([some (.ref 79), none, none, none, none], []) [])) := by
  refine (jev_blk 4 (pc' := if (f 7) = 1 then 8 else 4) (L' := ([some (.ref 79), none, none, none, none], [])) (S' := []) (h' := (jXt cx (jY f g n b l t), z)) rfl).trans (jev_ite.trans (jite_congr (fun _ => ?_) (fun _ => ?_)))
  · refine (jev_blk 5 (pc' := 13) (L' := ([some (.ref 79), none, none, none, none], [])) (S' := [.int 2, .ref 79, .int 6, .ref 83]) (h' := (jXt cx (jY f g n b l t), z)) rfl).trans ?_
    exact jev_callb (nx := 14) (rest := [.int 6, .ref 83]) rfl
  · refine (jev_blk 2 (pc' := 6) (L' := ([some (.ref 79), none, none, none, none], [])) (S' := [.int 1, .ref 79]) (h' := (jXt cx (jY f g n b l t), z)) rfl).trans ?_
    exact jev_callb (nx := 7) (rest := []) rfl
set_option maxRecDepth 20000 in
theorem E_m_flapLine_14 {D : Nat}  {d1 : Option Value} {d2 : Option Value} {d3 : Option Value} {d4 : Option Value} {u0 : Int32} {u1 : Int32} {cx : jCX} {f : Nat → Int32} {g : Nat → Nat → Int32} {n : Nat → Nat → Int64} {b : Nat → Nat → Int32} {l : Nat → Int64} {t : List jE} {z : Nat × Nat × Nat × (Nat → Int32)}  : jev D 163 14 ([some (.ref 79), d1, d2, d3, d4], []) [.int u0, .int u1, .ref 83] (jXt cx (jY f g n b l t), z) = jbO (K_m_found D u1 u0 (f 8) cx f g n b l t z) (jk D 163 17 ([some (.ref 79), d1, d2, d3, d4], []) []) := by
  refine (jev_blk 2 (pc' := 16) (L' := ([some (.ref 79), d1, d2, d3, d4], [])) (S' := [.int (f 8), .int u0, .int u1, .ref 83]) (h' := (jXt cx (jY f g n b l t), z)) rfl).trans ?_
  exact jev_callb (nx := 17) (rest := []) rfl
set_option maxRecDepth 20000 in
theorem E_m_flapLine_7 {D : Nat}  {d1 : Option Value} {d2 : Option Value} {d3 : Option Value} {d4 : Option Value} {cx : jCX} {f : Nat → Int32} {g : Nat → Nat → Int32} {n : Nat → Nat → Int64} {b : Nat → Nat → Int32} {l : Nat → Int64} {t : List jE} {z : Nat × Nat × Nat × (Nat → Int32)}  : jev D 163 7 ([some (.ref 79), d1, d2, d3, d4], []) [] (jXt cx (jY f g n b l t), z) = K_m_flapLine_22 D d1 d2 d3 d4 cx f g n b l t z := by
  exact jev_blk 1 rfl
set_option maxRecDepth 20000 in
theorem E_m_flapLine_22 {D : Nat}  {d1 : Option Value} {d2 : Option Value} {d3 : Option Value} {d4 : Option Value} {cx : jCX} {f : Nat → Int32} {g : Nat → Nat → Int32} {n : Nat → Nat → Int64} {b : Nat → Nat → Int32} {l : Nat → Int64} {t : List jE} {z : Nat × Nat × Nat × (Nat → Int32)}  : K_m_flapLine_22 D d1 d2 d3 d4 cx f g n b l t z = if (f 9) = 0 then (jbO (K_m_fresher D 2 cx f g n b l t z) (jk D 163 33 ([some (.ref 79), d1, d2, d3, d4], []) [.int 6, .ref 83, .int 6])) else (some (.inl (none), (jXt cx (jY f g n b l t), z))) := by
  refine (jev_blk 3 (pc' := if (f 9) = 0 then 26 else 25) (L' := ([some (.ref 79), d1, d2, d3, d4], [])) (S' := []) (h' := (jXt cx (jY f g n b l t), z)) rfl).trans (jev_ite.trans (jite_congr (fun _ => ?_) (fun _ => ?_)))
  · refine (jev_blk 6 (pc' := 32) (L' := ([some (.ref 79), d1, d2, d3, d4], [])) (S' := [.int 2, .ref 79, .int 6, .ref 83, .int 6]) (h' := (jXt cx (jY f g n b l t), z)) rfl).trans ?_
    exact jev_callb (nx := 33) (rest := [.int 6, .ref 83, .int 6]) rfl
  · exact jev_fin rfl
set_option maxRecDepth 20000 in
theorem E_m_flapLine_17 {D : Nat}  {d1 : Option Value} {d2 : Option Value} {d3 : Option Value} {d4 : Option Value} {u0 : Int32} {cx : jCX} {f : Nat → Int32} {g : Nat → Nat → Int32} {n : Nat → Nat → Int64} {b : Nat → Nat → Int32} {l : Nat → Int64} {t : List jE} {z : Nat × Nat × Nat × (Nat → Int32)}  : jev D 163 17 ([some (.ref 79), d1, d2, d3, d4], []) [.int u0] (jXt cx (jY f g n b l t), z) = if u0 = (-1) then (jbO (K_m_wrong D 4 cx f g n b l t z) (jk D 163 22 ([some (.ref 79), d1, d2, d3, d4], []) [])) else (K_m_flapLine_22 D d1 d2 d3 d4 cx f g n b l t z) := by
  refine (jev_blk 2 (pc' := if u0 = (-1) then 19 else 22) (L' := ([some (.ref 79), d1, d2, d3, d4], [])) (S' := []) (h' := (jXt cx (jY f g n b l t), z)) rfl).trans (jev_ite.trans (jite_congr (fun _ => ?_) (fun _ => ?_)))
  · refine (jev_blk 2 (pc' := 21) (L' := ([some (.ref 79), d1, d2, d3, d4], [])) (S' := [.int 4, .ref 79]) (h' := (jXt cx (jY f g n b l t), z)) rfl).trans ?_
    exact jev_callb (nx := 22) (rest := []) rfl
  · rfl
set_option maxRecDepth 20000 in
theorem E_m_flapLine_33 {D : Nat}  {d1 : Option Value} {d2 : Option Value} {d3 : Option Value} {d4 : Option Value} {u0 : Int32} {u1 : Int32} {u3 : Int32} {cx : jCX} {f : Nat → Int32} {g : Nat → Nat → Int32} {n : Nat → Nat → Int64} {b : Nat → Nat → Int32} {l : Nat → Int64} {t : List jE} {z : Nat × Nat × Nat × (Nat → Int32)}  : jev D 163 33 ([some (.ref 79), d1, d2, d3, d4], []) [.int u0, .int u1, .ref 83, .int u3] (jXt cx (jY f g n b l t), z) = jbO (K_m_found D u1 u0 (f 8) cx f g n b l t z) (jk D 163 36 ([some (.ref 79), d1, d2, d3, d4], []) [.int u3]) := by
  refine (jev_blk 2 (pc' := 35) (L' := ([some (.ref 79), d1, d2, d3, d4], [])) (S' := [.int (f 8), .int u0, .int u1, .ref 83, .int u3]) (h' := (jXt cx (jY f g n b l t), z)) rfl).trans ?_
  exact jev_callb (nx := 36) (rest := [.int u3]) rfl
theorem F_m_flapLine_22 {D : Nat}  {d1 : Option Value} {d2 : Option Value} {d3 : Option Value} {d4 : Option Value} {cx : jCX} {f : Nat → Int32} {g : Nat → Nat → Int32} {n : Nat → Nat → Int64} {b : Nat → Nat → Int32} {l : Nat → Int64} {t : List jE} {z : Nat × Nat × Nat × (Nat → Int32)} : jev D 163 22 ([some (.ref 79), d1, d2, d3, d4], []) [] (jXt cx (jY f g n b l t), z) = K_m_flapLine_22 D d1 d2 d3 d4 cx f g n b l t z := rfl
set_option maxRecDepth 20000 in
theorem E_m_flapLine_36 {D : Nat}  {d1 : Option Value} {d2 : Option Value} {d3 : Option Value} {d4 : Option Value} {u0 : Int32} {u1 : Int32} {cx : jCX} {f : Nat → Int32} {g : Nat → Nat → Int32} {n : Nat → Nat → Int64} {b : Nat → Nat → Int32} {l : Nat → Int64} {t : List jE} {z : Nat × Nat × Nat × (Nat → Int32)}  : jev D 163 36 ([some (.ref 79), d1, d2, d3, d4], []) [.int u0, .int u1] (jXt cx (jY f g n b l t), z) = jbO (K_m_token D cx f g n b l t z) (jk D 163 40 ([some (.ref 79), some (.int (u1 + u0)), d2, d3, d4], []) []) := by
  refine (jev_blk 3 (pc' := 39) (L' := ([some (.ref 79), some (.int (u1 + u0)), d2, d3, d4], [])) (S' := [.ref 79]) (h' := (jXt cx (jY f g n b l t), z)) rfl).trans ?_
  exact jev_callb (nx := 40) (rest := []) rfl
set_option maxRecDepth 20000 in
theorem E_m_flapLine_40 {D : Nat}  {x1 : Int32} {d2 : Option Value} {d3 : Option Value} {d4 : Option Value} {cx : jCX} {f : Nat → Int32} {g : Nat → Nat → Int32} {n : Nat → Nat → Int64} {b : Nat → Nat → Int32} {l : Nat → Int64} {t : List jE} {z : Nat × Nat × Nat × (Nat → Int32)}  : jev D 163 40 ([some (.ref 79), some (.int x1), d2, d3, d4], []) [] (jXt cx (jY f g n b l t), z) = jbO (K_m_numeral D 0 11 cx f g n b l t z) (jk D 163 44 ([some (.ref 79), some (.int x1), d2, d3, d4], []) []) := by
  refine (jev_blk 3 (pc' := 43) (L' := ([some (.ref 79), some (.int x1), d2, d3, d4], [])) (S' := [.int 11, .int 0, .ref 79]) (h' := (jXt cx (jY f g n b l t), z)) rfl).trans ?_
  exact jev_callb (nx := 44) (rest := []) rfl
set_option maxRecDepth 20000 in
theorem E_m_flapLine_44 {D : Nat}  {x1 : Int32} {d2 : Option Value} {d3 : Option Value} {d4 : Option Value} {u0 : Int32} {cx : jCX} {f : Nat → Int32} {g : Nat → Nat → Int32} {n : Nat → Nat → Int64} {b : Nat → Nat → Int32} {l : Nat → Int64} {t : List jE} {z : Nat × Nat × Nat × (Nat → Int32)}  : jev D 163 44 ([some (.ref 79), some (.int x1), d2, d3, d4], []) [.int u0] (jXt cx (jY f g n b l t), z) = jbO (K_m_numeral D u0 11 cx f g n b l t z) (jk D 163 49 ([some (.ref 79), some (.int x1), some (.int u0), d3, d4], []) []) := by
  refine (jev_blk 4 (pc' := 48) (L' := ([some (.ref 79), some (.int x1), some (.int u0), d3, d4], [])) (S' := [.int 11, .int u0, .ref 79]) (h' := (jXt cx (jY f g n b l t), z)) rfl).trans ?_
  exact jev_callb (nx := 49) (rest := []) rfl
set_option maxRecDepth 20000 in
theorem E_m_flapLine_49 {D : Nat}  {x1 : Int32} {x2 : Int32} {d3 : Option Value} {d4 : Option Value} {u0 : Int32} {cx : jCX} {f : Nat → Int32} {g : Nat → Nat → Int32} {n : Nat → Nat → Int64} {b : Nat → Nat → Int32} {l : Nat → Int64} {t : List jE} {z : Nat × Nat × Nat × (Nat → Int32)}  : jev D 163 49 ([some (.ref 79), some (.int x1), some (.int x2), d3, d4], []) [.int u0] (jXt cx (jY f g n b l t), z) = K_m_flapLine_52 D x1 (some (.int x2)) u0 x2 cx f g n b l t z := by
  exact jev_blk 3 rfl
set_option maxRecDepth 20000 in
theorem L_m_flapLine_52 {D : Nat}  {x1 : Int32} {d2 : Option Value} {x3 : Int32} {x4 : Int32} {cx : jCX} {f : Nat → Int32} {g : Nat → Nat → Int32} {n : Nat → Nat → Int64} {b : Nat → Nat → Int32} {l : Nat → Int64} {t : List jE} {z : Nat × Nat × Nat × (Nat → Int32)}  : K_m_flapLine_52 D x1 d2 x3 x4 cx f g n b l t z = if x3 < x4 then (K_m_flapLine_70 D (some (.int x1)) d2 (some (.int x3)) (some (.int x4)) cx f g n b l t z) else (if (f 9) = 0 then (if jout x1 12 then none else (if jout x1 12 then none else (K_m_flapLine_52 D x1 d2 x3 (x4 + 1) cx f (jup g 8 ((jup (g 8) (x1.toNatClampNeg) ((g 8 x1.toNatClampNeg) ||| (1 <<< (x4 &&& 31)))))) n b l t z))) else (K_m_flapLine_70 D (some (.int x1)) d2 (some (.int x3)) (some (.int x4)) cx f g n b l t z)) := by
  refine (jev_blk 3 (pc' := if x3 < x4 then 70 else 55) (L' := ([some (.ref 79), some (.int x1), d2, some (.int x3), some (.int x4)], [])) (S' := []) (h' := (jXt cx (jY f g n b l t), z)) rfl).trans (jev_ite.trans (jite_congr (fun _ => ?_) (fun _ => ?_)))
  · rfl
  · refine (jev_blk 3 (pc' := if (f 9) = 0 then 58 else 70) (L' := ([some (.ref 79), some (.int x1), d2, some (.int x3), some (.int x4)], [])) (S' := []) (h' := (jXt cx (jY f g n b l t), z)) rfl).trans (jev_ite.trans (jite_congr (fun _ => ?_) (fun _ => ?_)))
    · refine (jev_blk 4 (pc' := 62) (L' := ([some (.ref 79), some (.int x1), d2, some (.int x3), some (.int x4)], [])) (S' := [.int x1, .ref 88, .int x1, .ref 88]) (h' := (jXt cx (jY f g n b l t), z)) rfl).trans ?_
      refine (jev_grd (q := jout x1 12) (pc' := 63) (L' := ([some (.ref 79), some (.int x1), d2, some (.int x3), some (.int x4)], [])) (S' := [.int (g 8 x1.toNatClampNeg), .int x1, .ref 88]) (h' := (jXt cx (jY f g n b l t), z)) rfl).trans (jite_congr (fun _ => rfl) (fun _ => ?_))
      refine (jev_blk 4 (pc' := 67) (L' := ([some (.ref 79), some (.int x1), d2, some (.int x3), some (.int x4)], [])) (S' := [.int ((g 8 x1.toNatClampNeg) ||| (1 <<< (x4 &&& 31))), .int x1, .ref 88]) (h' := (jXt cx (jY f g n b l t), z)) rfl).trans ?_
      refine (jev_grd (q := jout x1 12) (pc' := 68) (L' := ([some (.ref 79), some (.int x1), d2, some (.int x3), some (.int x4)], [])) (S' := []) (h' := (jXt cx (jY f (jup g 8 ((jup (g 8) (x1.toNatClampNeg) ((g 8 x1.toNatClampNeg) ||| (1 <<< (x4 &&& 31)))))) n b l t), z)) rfl).trans (jite_congr (fun _ => rfl) (fun _ => ?_))
      exact jev_blk 2 rfl
    · rfl
set_option maxRecDepth 20000 in
theorem E_m_flapLine_70 {D : Nat}  {d1 : Option Value} {d2 : Option Value} {d3 : Option Value} {d4 : Option Value} {cx : jCX} {f : Nat → Int32} {g : Nat → Nat → Int32} {n : Nat → Nat → Int64} {b : Nat → Nat → Int32} {l : Nat → Int64} {t : List jE} {z : Nat × Nat × Nat × (Nat → Int32)}  : K_m_flapLine_70 D d1 d2 d3 d4 cx f g n b l t z = jbO (K_m_fresher D 3 cx f g n b l t z) (jk D 163 75 ([some (.ref 79), d1, d2, d3, d4], []) [.int 3, .ref 79]) := by
  refine (jev_blk 4 (pc' := 74) (L' := ([some (.ref 79), d1, d2, d3, d4], [])) (S' := [.int 3, .ref 79, .int 3, .ref 79]) (h' := (jXt cx (jY f g n b l t), z)) rfl).trans ?_
  exact jev_callb (nx := 75) (rest := [.int 3, .ref 79]) rfl
set_option maxRecDepth 20000 in
theorem E_m_flapLine_75 {D : Nat}  {d1 : Option Value} {d2 : Option Value} {d3 : Option Value} {d4 : Option Value} {u0 : Int32} {u1 : Int32} {cx : jCX} {f : Nat → Int32} {g : Nat → Nat → Int32} {n : Nat → Nat → Int64} {b : Nat → Nat → Int32} {l : Nat → Int64} {t : List jE} {z : Nat × Nat × Nat × (Nat → Int32)}  : jev D 163 75 ([some (.ref 79), d1, d2, d3, d4], []) [.int u0, .int u1, .ref 79] (jXt cx (jY f g n b l t), z) = jbO (K_m_reads D u1 (u0 + 1) cx f g n b l t z) (jk D 163 78 ([some (.ref 79), d1, d2, d3, d4], []) []) := by
  refine (jev_blk 2 (pc' := 77) (L' := ([some (.ref 79), d1, d2, d3, d4], [])) (S' := [.int (u0 + 1), .int u1, .ref 79]) (h' := (jXt cx (jY f g n b l t), z)) rfl).trans ?_
  exact jev_callb (nx := 78) (rest := []) rfl
set_option maxRecDepth 20000 in
theorem E_m_flapLine_78 {D : Nat}  {d1 : Option Value} {d2 : Option Value} {d3 : Option Value} {d4 : Option Value} {cx : jCX} {f : Nat → Int32} {g : Nat → Nat → Int32} {n : Nat → Nat → Int64} {b : Nat → Nat → Int32} {l : Nat → Int64} {t : List jE} {z : Nat × Nat × Nat × (Nat → Int32)}  : jev D 163 78 ([some (.ref 79), d1, d2, d3, d4], []) [] (jXt cx (jY f g n b l t), z) = some (.inl (none), (jXt cx (jY f g n b l t), z)) := by
  exact jev_fin rfl
set_option maxRecDepth 20000 in
theorem E_m_lawLine {D : Nat}   {cx : jCX} {f : Nat → Int32} {g : Nat → Nat → Int32} {n : Nat → Nat → Int64} {b : Nat → Nat → Int32} {l : Nat → Int64} {t : List jE} {z : Nat × Nat × Nat × (Nat → Int32)}  : K_m_lawLine D cx f g n b l t z = if (f 7) = 0 then (if (f 8) < 10 then (K_m_lawLine_11 D none cx f g n b l t z) else (if 12 < (f 8) then (K_m_lawLine_11 D none cx f g n b l t z) else (K_m_lawLine_14 D none cx f g n b l t z))) else (K_m_lawLine_11 D none cx f g n b l t z) := by
  refine (jev_blk 3 (pc' := if (f 7) = 0 then 3 else 11) (L' := ([some (.ref 79), none], [])) (S' := []) (h' := (jXt cx (jY f g n b l t), z)) rfl).trans (jev_ite.trans (jite_congr (fun _ => ?_) (fun _ => ?_)))
  · refine (jev_blk 4 (pc' := if (f 8) < 10 then 11 else 7) (L' := ([some (.ref 79), none], [])) (S' := []) (h' := (jXt cx (jY f g n b l t), z)) rfl).trans (jev_ite.trans (jite_congr (fun _ => ?_) (fun _ => ?_)))
    · rfl
    · refine (jev_blk 4 (pc' := if 12 < (f 8) then 11 else 14) (L' := ([some (.ref 79), none], [])) (S' := []) (h' := (jXt cx (jY f g n b l t), z)) rfl).trans (jev_ite.trans (jite_congr (fun _ => ?_) (fun _ => ?_)))
      · rfl
      · rfl
  · rfl
set_option maxRecDepth 20000 in
theorem E_m_lawLine_11 {D : Nat}  {d1 : Option Value} {cx : jCX} {f : Nat → Int32} {g : Nat → Nat → Int32} {n : Nat → Nat → Int64} {b : Nat → Nat → Int32} {l : Nat → Int64} {t : List jE} {z : Nat × Nat × Nat × (Nat → Int32)}  : K_m_lawLine_11 D d1 cx f g n b l t z = jbO (K_m_wrong D 1 cx f g n b l t z) (jk D 164 14 ([some (.ref 79), d1], []) []) := by
  refine (jev_blk 2 (pc' := 13) (L' := ([some (.ref 79), d1], [])) (S' := [.int 1, .ref 79]) (h' := (jXt cx (jY f g n b l t), z)) rfl).trans ?_
  exact jev_callb (nx := 14) (rest := []) rfl
set_option maxRecDepth 20000 in
theorem E_m_lawLine_14 {D : Nat}  {d1 : Option Value} {cx : jCX} {f : Nat → Int32} {g : Nat → Nat → Int32} {n : Nat → Nat → Int64} {b : Nat → Nat → Int32} {l : Nat → Int64} {t : List jE} {z : Nat × Nat × Nat × (Nat → Int32)}  : K_m_lawLine_14 D d1 cx f g n b l t z = if (f 9) = 0 then (if (((f 2) >>> ((16 + ((f 8) - 10)) &&& 31)) &&& 1) = 1 then (jbO (K_m_wrong D 3 cx f g n b l t z) (jk D 164 35 ([some (.ref 79), some (.int ((f 8) - 10))], []) [])) else (K_m_lawLine_35 D ((f 8) - 10) cx f g n b l t z)) else (K_m_lawLine_35 D ((f 8) - 10) cx f g n b l t z) := by
  refine (jev_blk 8 (pc' := if (f 9) = 0 then 22 else 35) (L' := ([some (.ref 79), some (.int ((f 8) - 10))], [])) (S' := []) (h' := (jXt cx (jY f g n b l t), z)) rfl).trans (jev_ite.trans (jite_congr (fun _ => ?_) (fun _ => ?_)))
  · refine (jev_blk 10 (pc' := if (((f 2) >>> ((16 + ((f 8) - 10)) &&& 31)) &&& 1) = 1 then 32 else 35) (L' := ([some (.ref 79), some (.int ((f 8) - 10))], [])) (S' := []) (h' := (jXt cx (jY f g n b l t), z)) rfl).trans (jev_ite.trans (jite_congr (fun _ => ?_) (fun _ => ?_)))
    · refine (jev_blk 2 (pc' := 34) (L' := ([some (.ref 79), some (.int ((f 8) - 10))], [])) (S' := [.int 3, .ref 79]) (h' := (jXt cx (jY f g n b l t), z)) rfl).trans ?_
      exact jev_callb (nx := 35) (rest := []) rfl
    · rfl
  · rfl
set_option maxRecDepth 20000 in
theorem E_m_lawLine_35 {D : Nat}  {x1 : Int32} {cx : jCX} {f : Nat → Int32} {g : Nat → Nat → Int32} {n : Nat → Nat → Int64} {b : Nat → Nat → Int32} {l : Nat → Int64} {t : List jE} {z : Nat × Nat × Nat × (Nat → Int32)}  : K_m_lawLine_35 D x1 cx f g n b l t z = if (f 9) = 0 then (jbO (K_m_token D cx (jup f 2 (((f 2) ||| (1 <<< ((16 + x1) &&& 31))))) g n b l t z) (jk D 164 51 ([some (.ref 79), some (.int x1)], []) [])) else (some (.inl (none), (jXt cx (jY f g n b l t), z))) := by
  refine (jev_blk 3 (pc' := if (f 9) = 0 then 39 else 38) (L' := ([some (.ref 79), some (.int x1)], [])) (S' := []) (h' := (jXt cx (jY f g n b l t), z)) rfl).trans (jev_ite.trans (jite_congr (fun _ => ?_) (fun _ => ?_)))
  · refine (jev_blk 11 (pc' := 50) (L' := ([some (.ref 79), some (.int x1)], [])) (S' := [.ref 79]) (h' := (jXt cx (jY (jup f 2 (((f 2) ||| (1 <<< ((16 + x1) &&& 31))))) g n b l t), z)) rfl).trans ?_
    exact jev_callb (nx := 51) (rest := []) rfl
  · exact jev_fin rfl
theorem F_m_lawLine_14 {D : Nat}  {d1 : Option Value} {cx : jCX} {f : Nat → Int32} {g : Nat → Nat → Int32} {n : Nat → Nat → Int64} {b : Nat → Nat → Int32} {l : Nat → Int64} {t : List jE} {z : Nat × Nat × Nat × (Nat → Int32)} : jev D 164 14 ([some (.ref 79), d1], []) [] (jXt cx (jY f g n b l t), z) = K_m_lawLine_14 D d1 cx f g n b l t z := rfl
theorem F_m_lawLine_35 {D : Nat}  {x1 : Int32} {cx : jCX} {f : Nat → Int32} {g : Nat → Nat → Int32} {n : Nat → Nat → Int64} {b : Nat → Nat → Int32} {l : Nat → Int64} {t : List jE} {z : Nat × Nat × Nat × (Nat → Int32)} : jev D 164 35 ([some (.ref 79), some (.int x1)], []) [] (jXt cx (jY f g n b l t), z) = K_m_lawLine_35 D x1 cx f g n b l t z := rfl
set_option maxRecDepth 20000 in
theorem E_m_lawLine_51 {D : Nat}  {x1 : Int32} {cx : jCX} {f : Nat → Int32} {g : Nat → Nat → Int32} {n : Nat → Nat → Int64} {b : Nat → Nat → Int32} {l : Nat → Int64} {t : List jE} {z : Nat × Nat × Nat × (Nat → Int32)}  : jev D 164 51 ([some (.ref 79), some (.int x1)], []) [] (jXt cx (jY f g n b l t), z) = jbO (K_m_fresher D 9 cx f g n b l t z) (jk D 164 59 ([some (.ref 79), some (.int x1)], []) [.int (3 + x1), .ref 90]) := by
  refine (jev_blk 7 (pc' := 58) (L' := ([some (.ref 79), some (.int x1)], [])) (S' := [.int 9, .ref 79, .int (3 + x1), .ref 90]) (h' := (jXt cx (jY f g n b l t), z)) rfl).trans ?_
  exact jev_callb (nx := 59) (rest := [.int (3 + x1), .ref 90]) rfl
set_option maxRecDepth 20000 in
theorem E_m_lawLine_59 {D : Nat}  {x1 : Int32} {u0 : Int32} {u1 : Int32} {cx : jCX} {f : Nat → Int32} {g : Nat → Nat → Int32} {n : Nat → Nat → Int64} {b : Nat → Nat → Int32} {l : Nat → Int64} {t : List jE} {z : Nat × Nat × Nat × (Nat → Int32)}  : jev D 164 59 ([some (.ref 79), some (.int x1)], []) [.int u0, .int u1, .ref 90] (jXt cx (jY f g n b l t), z) = if jout u1 6 then none else (jbO (K_m_expression D cx f (jup g 10 ((jup (g 10) (u1.toNatClampNeg) u0))) n b l t z) (jk D 164 62 ([some (.ref 79), some (.int x1)], []) [])) := by
  refine (jev_grd (q := jout u1 6) (pc' := 60) (L' := ([some (.ref 79), some (.int x1)], [])) (S' := []) (h' := (jXt cx (jY f (jup g 10 ((jup (g 10) (u1.toNatClampNeg) u0))) n b l t), z)) rfl).trans (jite_congr (fun _ => rfl) (fun _ => ?_))
  refine (jev_blk 1 (pc' := 61) (L' := ([some (.ref 79), some (.int x1)], [])) (S' := [.ref 79]) (h' := (jXt cx (jY f (jup g 10 ((jup (g 10) (u1.toNatClampNeg) u0))) n b l t), z)) rfl).trans ?_
  exact jev_callb (nx := 62) (rest := []) rfl
set_option maxRecDepth 20000 in
theorem E_m_lawLine_62 {D : Nat}  {x1 : Int32} {cx : jCX} {f : Nat → Int32} {g : Nat → Nat → Int32} {n : Nat → Nat → Int64} {b : Nat → Nat → Int32} {l : Nat → Int64} {t : List jE} {z : Nat × Nat × Nat × (Nat → Int32)}  : jev D 164 62 ([some (.ref 79), some (.int x1)], []) [] (jXt cx (jY f g n b l t), z) = jbO (K_m_fresher D 9 cx f g n b l t z) (jk D 164 70 ([some (.ref 79), some (.int x1)], []) [.int (3 + x1), .ref 91]) := by
  refine (jev_blk 7 (pc' := 69) (L' := ([some (.ref 79), some (.int x1)], [])) (S' := [.int 9, .ref 79, .int (3 + x1), .ref 91]) (h' := (jXt cx (jY f g n b l t), z)) rfl).trans ?_
  exact jev_callb (nx := 70) (rest := [.int (3 + x1), .ref 91]) rfl
set_option maxRecDepth 20000 in
theorem E_m_lawLine_70 {D : Nat}  {d1 : Option Value} {u0 : Int32} {u1 : Int32} {cx : jCX} {f : Nat → Int32} {g : Nat → Nat → Int32} {n : Nat → Nat → Int64} {b : Nat → Nat → Int32} {l : Nat → Int64} {t : List jE} {z : Nat × Nat × Nat × (Nat → Int32)}  : jev D 164 70 ([some (.ref 79), d1], []) [.int u0, .int u1, .ref 91] (jXt cx (jY f g n b l t), z) = if jout u1 6 then none else (some (.inl (none), (jXt cx (jY f (jup g 11 ((jup (g 11) (u1.toNatClampNeg) u0))) n b l t), z))) := by
  refine (jev_grd (q := jout u1 6) (pc' := 71) (L' := ([some (.ref 79), d1], [])) (S' := []) (h' := (jXt cx (jY f (jup g 11 ((jup (g 11) (u1.toNatClampNeg) u0))) n b l t), z)) rfl).trans (jite_congr (fun _ => rfl) (fun _ => ?_))
  exact jev_fin rfl
set_option maxRecDepth 20000 in
theorem E_m_puts {D : Nat}  {a0 : Int32} {a1 : Int32} {cx : jCX} {f : Nat → Int32} {g : Nat → Nat → Int32} {n : Nat → Nat → Int64} {b : Nat → Nat → Int32} {l : Nat → Int64} {t : List jE} {z : Nat × Nat × Nat × (Nat → Int32)}  : K_m_puts D a0 a1 cx f g n b l t z = if (f 9) = 0 then (jbO (K_m_fresher D 9 cx f g n b l t z) (jk D 165 10 ([some (.ref 79), some (.int a0), some (.int a1)], []) [.int 64, .ref 92])) else (some (.inl (none), (jXt cx (jY f g n b l t), z))) := by
  refine (jev_blk 3 (pc' := if (f 9) = 0 then 4 else 3) (L' := ([some (.ref 79), some (.int a0), some (.int a1)], [])) (S' := []) (h' := (jXt cx (jY f g n b l t), z)) rfl).trans (jev_ite.trans (jite_congr (fun _ => ?_) (fun _ => ?_)))
  · refine (jev_blk 5 (pc' := 9) (L' := ([some (.ref 79), some (.int a0), some (.int a1)], [])) (S' := [.int 9, .ref 79, .int 64, .ref 92]) (h' := (jXt cx (jY f g n b l t), z)) rfl).trans ?_
    exact jev_callb (nx := 10) (rest := [.int 64, .ref 92]) rfl
  · exact jev_fin rfl
set_option maxRecDepth 20000 in
theorem E_m_puts_10 {D : Nat}  {x1 : Int32} {x2 : Int32} {u0 : Int32} {u1 : Int32} {cx : jCX} {f : Nat → Int32} {g : Nat → Nat → Int32} {n : Nat → Nat → Int64} {b : Nat → Nat → Int32} {l : Nat → Int64} {t : List jE} {z : Nat × Nat × Nat × (Nat → Int32)}  : jev D 165 10 ([some (.ref 79), some (.int x1), some (.int x2)], []) [.int u0, .int u1, .ref 92] (jXt cx (jY f g n b l t), z) = jev D 165 12 ([some (.ref 79), some (.int x1), some (.int x2)], []) [.int x1, .int (u1 + u0), .ref 92] (jXt cx (jY f g n b l t), z) := by
  exact jev_blk 2 rfl
set_option maxRecDepth 20000 in
theorem E_m_puts_12 {D : Nat}  {d1 : Option Value} {x2 : Int32} {u0 : Int32} {u1 : Int32} {cx : jCX} {f : Nat → Int32} {g : Nat → Nat → Int32} {n : Nat → Nat → Int64} {b : Nat → Nat → Int32} {l : Nat → Int64} {t : List jE} {z : Nat × Nat × Nat × (Nat → Int32)}  : jev D 165 12 ([some (.ref 79), d1, some (.int x2)], []) [.int u0, .int u1, .ref 92] (jXt cx (jY f g n b l t), z) = if jout u1 128 then none else (jbO (K_m_fresher D 9 cx f (jup g 12 ((jup (g 12) (u1.toNatClampNeg) u0))) n b l t z) (jk D 165 19 ([some (.ref 79), d1, some (.int x2)], []) [.int 64, .ref 93])) := by
  refine (jev_grd (q := jout u1 128) (pc' := 13) (L' := ([some (.ref 79), d1, some (.int x2)], [])) (S' := []) (h' := (jXt cx (jY f (jup g 12 ((jup (g 12) (u1.toNatClampNeg) u0))) n b l t), z)) rfl).trans (jite_congr (fun _ => rfl) (fun _ => ?_))
  refine (jev_blk 5 (pc' := 18) (L' := ([some (.ref 79), d1, some (.int x2)], [])) (S' := [.int 9, .ref 79, .int 64, .ref 93]) (h' := (jXt cx (jY f (jup g 12 ((jup (g 12) (u1.toNatClampNeg) u0))) n b l t), z)) rfl).trans ?_
  exact jev_callb (nx := 19) (rest := [.int 64, .ref 93]) rfl
set_option maxRecDepth 20000 in
theorem E_m_puts_19 {D : Nat}  {d1 : Option Value} {x2 : Int32} {u0 : Int32} {u1 : Int32} {cx : jCX} {f : Nat → Int32} {g : Nat → Nat → Int32} {n : Nat → Nat → Int64} {b : Nat → Nat → Int32} {l : Nat → Int64} {t : List jE} {z : Nat × Nat × Nat × (Nat → Int32)}  : jev D 165 19 ([some (.ref 79), d1, some (.int x2)], []) [.int u0, .int u1, .ref 93] (jXt cx (jY f g n b l t), z) = jev D 165 21 ([some (.ref 79), d1, some (.int x2)], []) [.int x2, .int (u1 + u0), .ref 93] (jXt cx (jY f g n b l t), z) := by
  exact jev_blk 2 rfl
set_option maxRecDepth 20000 in
theorem E_m_puts_21 {D : Nat}  {d1 : Option Value} {d2 : Option Value} {u0 : Int32} {u1 : Int32} {cx : jCX} {f : Nat → Int32} {g : Nat → Nat → Int32} {n : Nat → Nat → Int64} {b : Nat → Nat → Int32} {l : Nat → Int64} {t : List jE} {z : Nat × Nat × Nat × (Nat → Int32)}  : jev D 165 21 ([some (.ref 79), d1, d2], []) [.int u0, .int u1, .ref 93] (jXt cx (jY f g n b l t), z) = if jout u1 128 then none else (jbO (K_m_fresher D 9 cx f (jup g 13 ((jup (g 13) (u1.toNatClampNeg) u0))) n b l t z) (jk D 165 27 ([some (.ref 79), d1, d2], []) [.int 9, .ref 79])) := by
  refine (jev_grd (q := jout u1 128) (pc' := 22) (L' := ([some (.ref 79), d1, d2], [])) (S' := []) (h' := (jXt cx (jY f (jup g 13 ((jup (g 13) (u1.toNatClampNeg) u0))) n b l t), z)) rfl).trans (jite_congr (fun _ => rfl) (fun _ => ?_))
  refine (jev_blk 4 (pc' := 26) (L' := ([some (.ref 79), d1, d2], [])) (S' := [.int 9, .ref 79, .int 9, .ref 79]) (h' := (jXt cx (jY f (jup g 13 ((jup (g 13) (u1.toNatClampNeg) u0))) n b l t), z)) rfl).trans ?_
  exact jev_callb (nx := 27) (rest := [.int 9, .ref 79]) rfl
set_option maxRecDepth 20000 in
theorem E_m_puts_27 {D : Nat}  {d1 : Option Value} {d2 : Option Value} {u0 : Int32} {u1 : Int32} {cx : jCX} {f : Nat → Int32} {g : Nat → Nat → Int32} {n : Nat → Nat → Int64} {b : Nat → Nat → Int32} {l : Nat → Int64} {t : List jE} {z : Nat × Nat × Nat × (Nat → Int32)}  : jev D 165 27 ([some (.ref 79), d1, d2], []) [.int u0, .int u1, .ref 79] (jXt cx (jY f g n b l t), z) = jbO (K_m_reads D u1 (u0 + 1) cx f g n b l t z) (jk D 165 30 ([some (.ref 79), d1, d2], []) []) := by
  refine (jev_blk 2 (pc' := 29) (L' := ([some (.ref 79), d1, d2], [])) (S' := [.int (u0 + 1), .int u1, .ref 79]) (h' := (jXt cx (jY f g n b l t), z)) rfl).trans ?_
  exact jev_callb (nx := 30) (rest := []) rfl
set_option maxRecDepth 20000 in
theorem E_m_puts_30 {D : Nat}  {d1 : Option Value} {d2 : Option Value} {cx : jCX} {f : Nat → Int32} {g : Nat → Nat → Int32} {n : Nat → Nat → Int64} {b : Nat → Nat → Int32} {l : Nat → Int64} {t : List jE} {z : Nat × Nat × Nat × (Nat → Int32)}  : jev D 165 30 ([some (.ref 79), d1, d2], []) [] (jXt cx (jY f g n b l t), z) = some (.inl (none), (jXt cx (jY f g n b l t), z)) := by
  exact jev_fin rfl
set_option maxRecDepth 20000 in
theorem E_m_knot {D : Nat}   {cx : jCX} {f : Nat → Int32} {g : Nat → Nat → Int32} {n : Nat → Nat → Int64} {b : Nat → Nat → Int32} {l : Nat → Int64} {t : List jE} {z : Nat × Nat × Nat × (Nat → Int32)}  : K_m_knot D cx f g n b l t z = if (f 9) = 0 then (if (f 14) = 64 then (jbO (K_m_wrong D 2 cx f g n b l t z) (jk D 166 11 ([some (.ref 79)], []) [])) else (some (.inl (none), (jXt cx (jY (jup f 14 (((f 14) + 1))) g n b l t), z)))) else (some (.inl (none), (jXt cx (jY f g n b l t), z))) := by
  refine (jev_blk 3 (pc' := if (f 9) = 0 then 4 else 3) (L' := ([some (.ref 79)], [])) (S' := []) (h' := (jXt cx (jY f g n b l t), z)) rfl).trans (jev_ite.trans (jite_congr (fun _ => ?_) (fun _ => ?_)))
  · refine (jev_blk 4 (pc' := if (f 14) = 64 then 8 else 12) (L' := ([some (.ref 79)], [])) (S' := []) (h' := (jXt cx (jY f g n b l t), z)) rfl).trans (jev_ite.trans (jite_congr (fun _ => ?_) (fun _ => ?_)))
    · refine (jev_blk 2 (pc' := 10) (L' := ([some (.ref 79)], [])) (S' := [.int 2, .ref 79]) (h' := (jXt cx (jY f g n b l t), z)) rfl).trans ?_
      exact jev_callb (nx := 11) (rest := []) rfl
    · refine (jev_blk 6 (pc' := 18) (L' := ([some (.ref 79)], [])) (S' := []) (h' := (jXt cx (jY (jup f 14 (((f 14) + 1))) g n b l t), z)) rfl).trans ?_
      exact jev_fin rfl
  · exact jev_fin rfl
set_option maxRecDepth 20000 in
theorem E_m_knot_11 {D : Nat}   {cx : jCX} {f : Nat → Int32} {g : Nat → Nat → Int32} {n : Nat → Nat → Int64} {b : Nat → Nat → Int32} {l : Nat → Int64} {t : List jE} {z : Nat × Nat × Nat × (Nat → Int32)}  : jev D 166 11 ([some (.ref 79)], []) [] (jXt cx (jY f g n b l t), z) = some (.inl (none), (jXt cx (jY f g n b l t), z)) := by
  refine (jev_blk 1 (pc' := 18) (L' := ([some (.ref 79)], [])) (S' := []) (h' := (jXt cx (jY f g n b l t), z)) rfl).trans ?_
  exact jev_fin rfl
set_option maxRecDepth 20000 in
theorem E_m_expression {D : Nat}   {cx : jCX} {f : Nat → Int32} {g : Nat → Nat → Int32} {n : Nat → Nat → Int64} {b : Nat → Nat → Int32} {l : Nat → Int64} {t : List jE} {z : Nat × Nat × Nat × (Nat → Int32)}  : K_m_expression (D + 1) cx f g n b l t z = jbO (K_m_conjunction D cx f g n b l t z) (jk (D + 1) 167 2 ([some (.ref 79)], []) []) := by
  refine (jev_blk 1 (pc' := 1) (L' := ([some (.ref 79)], [])) (S' := [.ref 79]) (h' := (jXt cx (jY f g n b l t), z)) rfl).trans ?_
  exact jev_callb (nx := 2) (rest := []) rfl
theorem F_m_expression_2 {D : Nat}   {cx : jCX} {f : Nat → Int32} {g : Nat → Nat → Int32} {n : Nat → Nat → Int64} {b : Nat → Nat → Int32} {l : Nat → Int64} {t : List jE} {z : Nat × Nat × Nat × (Nat → Int32)} : jev D 167 2 ([some (.ref 79)], []) [] (jXt cx (jY f g n b l t), z) = K_m_expression_2 D cx f g n b l t z := rfl
set_option maxRecDepth 20000 in
theorem L_m_expression_2 {D : Nat}   {cx : jCX} {f : Nat → Int32} {g : Nat → Nat → Int32} {n : Nat → Nat → Int64} {b : Nat → Nat → Int32} {l : Nat → Int64} {t : List jE} {z : Nat × Nat × Nat × (Nat → Int32)}  : K_m_expression_2 D cx f g n b l t z = jbO (K_m_isWord D 13 cx f g n b l t z) (jk D 167 5 ([some (.ref 79)], []) []) := by
  refine (jev_blk 2 (pc' := 4) (L' := ([some (.ref 79)], [])) (S' := [.int 13, .ref 79]) (h' := (jXt cx (jY f g n b l t), z)) rfl).trans ?_
  exact jev_callb (nx := 5) (rest := []) rfl
set_option maxRecDepth 20000 in
theorem E_m_expression_5 {D : Nat}  {u0 : Int32} {cx : jCX} {f : Nat → Int32} {g : Nat → Nat → Int32} {n : Nat → Nat → Int64} {b : Nat → Nat → Int32} {l : Nat → Int64} {t : List jE} {z : Nat × Nat × Nat × (Nat → Int32)}  : jev D 167 5 ([some (.ref 79)], []) [.int u0] (jXt cx (jY f g n b l t), z) = if u0 = 0 then (some (.inl (none), (jXt cx (jY f g n b l t), z))) else (jbO (K_m_knot D cx f g n b l t z) (jk D 167 8 ([some (.ref 79)], []) [])) := by
  refine (jev_blk 1 (pc' := if u0 = 0 then 17 else 6) (L' := ([some (.ref 79)], [])) (S' := []) (h' := (jXt cx (jY f g n b l t), z)) rfl).trans (jev_ite.trans (jite_congr (fun _ => ?_) (fun _ => ?_)))
  · exact jev_fin rfl
  · refine (jev_blk 1 (pc' := 7) (L' := ([some (.ref 79)], [])) (S' := [.ref 79]) (h' := (jXt cx (jY f g n b l t), z)) rfl).trans ?_
    exact jev_callb (nx := 8) (rest := []) rfl
set_option maxRecDepth 20000 in
theorem E_m_expression_8 {D : Nat}   {cx : jCX} {f : Nat → Int32} {g : Nat → Nat → Int32} {n : Nat → Nat → Int64} {b : Nat → Nat → Int32} {l : Nat → Int64} {t : List jE} {z : Nat × Nat × Nat × (Nat → Int32)}  : jev D 167 8 ([some (.ref 79)], []) [] (jXt cx (jY f g n b l t), z) = jbO (K_m_goOn D cx f g n b l t z) (jk D 167 10 ([some (.ref 79)], []) []) := by
  refine (jev_blk 1 (pc' := 9) (L' := ([some (.ref 79)], [])) (S' := [.ref 79]) (h' := (jXt cx (jY f g n b l t), z)) rfl).trans ?_
  exact jev_callb (nx := 10) (rest := []) rfl
set_option maxRecDepth 20000 in
theorem E_m_expression_10 {D : Nat}   {cx : jCX} {f : Nat → Int32} {g : Nat → Nat → Int32} {n : Nat → Nat → Int64} {b : Nat → Nat → Int32} {l : Nat → Int64} {t : List jE} {z : Nat × Nat × Nat × (Nat → Int32)}  : jev (D + 1) 167 10 ([some (.ref 79)], []) [] (jXt cx (jY f g n b l t), z) = jbO (K_m_conjunction D cx f g n b l t z) (jk (D + 1) 167 12 ([some (.ref 79)], []) []) := by
  refine (jev_blk 1 (pc' := 11) (L' := ([some (.ref 79)], [])) (S' := [.ref 79]) (h' := (jXt cx (jY f g n b l t), z)) rfl).trans ?_
  exact jev_callb (nx := 12) (rest := []) rfl
set_option maxRecDepth 20000 in
theorem E_m_expression_12 {D : Nat}   {cx : jCX} {f : Nat → Int32} {g : Nat → Nat → Int32} {n : Nat → Nat → Int64} {b : Nat → Nat → Int32} {l : Nat → Int64} {t : List jE} {z : Nat × Nat × Nat × (Nat → Int32)}  : jev D 167 12 ([some (.ref 79)], []) [] (jXt cx (jY f g n b l t), z) = jbO (K_m_puts D 2 262 cx f g n b l t z) (jk D 167 16 ([some (.ref 79)], []) []) := by
  refine (jev_blk 3 (pc' := 15) (L' := ([some (.ref 79)], [])) (S' := [.int 262, .int 2, .ref 79]) (h' := (jXt cx (jY f g n b l t), z)) rfl).trans ?_
  exact jev_callb (nx := 16) (rest := []) rfl
set_option maxRecDepth 20000 in
theorem E_m_expression_16 {D : Nat}   {cx : jCX} {f : Nat → Int32} {g : Nat → Nat → Int32} {n : Nat → Nat → Int64} {b : Nat → Nat → Int32} {l : Nat → Int64} {t : List jE} {z : Nat × Nat × Nat × (Nat → Int32)}  : jev D 167 16 ([some (.ref 79)], []) [] (jXt cx (jY f g n b l t), z) = K_m_expression_2 D cx f g n b l t z := by
  exact jev_blk 1 rfl
set_option maxRecDepth 20000 in
theorem E_m_conjunction {D : Nat}   {cx : jCX} {f : Nat → Int32} {g : Nat → Nat → Int32} {n : Nat → Nat → Int64} {b : Nat → Nat → Int32} {l : Nat → Int64} {t : List jE} {z : Nat × Nat × Nat × (Nat → Int32)}  : K_m_conjunction (D + 1) cx f g n b l t z = jbO (K_m_negation D cx f g n b l t z) (jk (D + 1) 168 2 ([some (.ref 79)], []) []) := by
  refine (jev_blk 1 (pc' := 1) (L' := ([some (.ref 79)], [])) (S' := [.ref 79]) (h' := (jXt cx (jY f g n b l t), z)) rfl).trans ?_
  exact jev_callb (nx := 2) (rest := []) rfl
theorem F_m_conjunction_2 {D : Nat}   {cx : jCX} {f : Nat → Int32} {g : Nat → Nat → Int32} {n : Nat → Nat → Int64} {b : Nat → Nat → Int32} {l : Nat → Int64} {t : List jE} {z : Nat × Nat × Nat × (Nat → Int32)} : jev D 168 2 ([some (.ref 79)], []) [] (jXt cx (jY f g n b l t), z) = K_m_conjunction_2 D cx f g n b l t z := rfl
set_option maxRecDepth 20000 in
theorem L_m_conjunction_2 {D : Nat}   {cx : jCX} {f : Nat → Int32} {g : Nat → Nat → Int32} {n : Nat → Nat → Int64} {b : Nat → Nat → Int32} {l : Nat → Int64} {t : List jE} {z : Nat × Nat × Nat × (Nat → Int32)}  : K_m_conjunction_2 D cx f g n b l t z = jbO (K_m_isWord D 14 cx f g n b l t z) (jk D 168 5 ([some (.ref 79)], []) []) := by
  refine (jev_blk 2 (pc' := 4) (L' := ([some (.ref 79)], [])) (S' := [.int 14, .ref 79]) (h' := (jXt cx (jY f g n b l t), z)) rfl).trans ?_
  exact jev_callb (nx := 5) (rest := []) rfl
set_option maxRecDepth 20000 in
theorem E_m_conjunction_5 {D : Nat}  {u0 : Int32} {cx : jCX} {f : Nat → Int32} {g : Nat → Nat → Int32} {n : Nat → Nat → Int64} {b : Nat → Nat → Int32} {l : Nat → Int64} {t : List jE} {z : Nat × Nat × Nat × (Nat → Int32)}  : jev D 168 5 ([some (.ref 79)], []) [.int u0] (jXt cx (jY f g n b l t), z) = if u0 = 0 then (some (.inl (none), (jXt cx (jY f g n b l t), z))) else (jbO (K_m_knot D cx f g n b l t z) (jk D 168 8 ([some (.ref 79)], []) [])) := by
  refine (jev_blk 1 (pc' := if u0 = 0 then 17 else 6) (L' := ([some (.ref 79)], [])) (S' := []) (h' := (jXt cx (jY f g n b l t), z)) rfl).trans (jev_ite.trans (jite_congr (fun _ => ?_) (fun _ => ?_)))
  · exact jev_fin rfl
  · refine (jev_blk 1 (pc' := 7) (L' := ([some (.ref 79)], [])) (S' := [.ref 79]) (h' := (jXt cx (jY f g n b l t), z)) rfl).trans ?_
    exact jev_callb (nx := 8) (rest := []) rfl
set_option maxRecDepth 20000 in
theorem E_m_conjunction_8 {D : Nat}   {cx : jCX} {f : Nat → Int32} {g : Nat → Nat → Int32} {n : Nat → Nat → Int64} {b : Nat → Nat → Int32} {l : Nat → Int64} {t : List jE} {z : Nat × Nat × Nat × (Nat → Int32)}  : jev D 168 8 ([some (.ref 79)], []) [] (jXt cx (jY f g n b l t), z) = jbO (K_m_goOn D cx f g n b l t z) (jk D 168 10 ([some (.ref 79)], []) []) := by
  refine (jev_blk 1 (pc' := 9) (L' := ([some (.ref 79)], [])) (S' := [.ref 79]) (h' := (jXt cx (jY f g n b l t), z)) rfl).trans ?_
  exact jev_callb (nx := 10) (rest := []) rfl
set_option maxRecDepth 20000 in
theorem E_m_conjunction_10 {D : Nat}   {cx : jCX} {f : Nat → Int32} {g : Nat → Nat → Int32} {n : Nat → Nat → Int64} {b : Nat → Nat → Int32} {l : Nat → Int64} {t : List jE} {z : Nat × Nat × Nat × (Nat → Int32)}  : jev (D + 1) 168 10 ([some (.ref 79)], []) [] (jXt cx (jY f g n b l t), z) = jbO (K_m_negation D cx f g n b l t z) (jk (D + 1) 168 12 ([some (.ref 79)], []) []) := by
  refine (jev_blk 1 (pc' := 11) (L' := ([some (.ref 79)], [])) (S' := [.ref 79]) (h' := (jXt cx (jY f g n b l t), z)) rfl).trans ?_
  exact jev_callb (nx := 12) (rest := []) rfl
set_option maxRecDepth 20000 in
theorem E_m_conjunction_12 {D : Nat}   {cx : jCX} {f : Nat → Int32} {g : Nat → Nat → Int32} {n : Nat → Nat → Int64} {b : Nat → Nat → Int32} {l : Nat → Int64} {t : List jE} {z : Nat × Nat × Nat × (Nat → Int32)}  : jev D 168 12 ([some (.ref 79)], []) [] (jXt cx (jY f g n b l t), z) = jbO (K_m_puts D 2 261 cx f g n b l t z) (jk D 168 16 ([some (.ref 79)], []) []) := by
  refine (jev_blk 3 (pc' := 15) (L' := ([some (.ref 79)], [])) (S' := [.int 261, .int 2, .ref 79]) (h' := (jXt cx (jY f g n b l t), z)) rfl).trans ?_
  exact jev_callb (nx := 16) (rest := []) rfl
set_option maxRecDepth 20000 in
theorem E_m_conjunction_16 {D : Nat}   {cx : jCX} {f : Nat → Int32} {g : Nat → Nat → Int32} {n : Nat → Nat → Int64} {b : Nat → Nat → Int32} {l : Nat → Int64} {t : List jE} {z : Nat × Nat × Nat × (Nat → Int32)}  : jev D 168 16 ([some (.ref 79)], []) [] (jXt cx (jY f g n b l t), z) = K_m_conjunction_2 D cx f g n b l t z := by
  exact jev_blk 1 rfl
set_option maxRecDepth 20000 in
theorem E_m_negation {D : Nat}   {cx : jCX} {f : Nat → Int32} {g : Nat → Nat → Int32} {n : Nat → Nat → Int64} {b : Nat → Nat → Int32} {l : Nat → Int64} {t : List jE} {z : Nat × Nat × Nat × (Nat → Int32)}  : K_m_negation D cx f g n b l t z = jbO (K_m_isWord D 15 cx f g n b l t z) (jk D 169 3 ([some (.ref 79), none], []) []) := by
  refine (jev_blk 2 (pc' := 2) (L' := ([some (.ref 79), none], [])) (S' := [.int 15, .ref 79]) (h' := (jXt cx (jY f g n b l t), z)) rfl).trans ?_
  exact jev_callb (nx := 3) (rest := []) rfl
set_option maxRecDepth 20000 in
theorem E_m_negation_3 {D : Nat}  {d1 : Option Value} {u0 : Int32} {cx : jCX} {f : Nat → Int32} {g : Nat → Nat → Int32} {n : Nat → Nat → Int64} {b : Nat → Nat → Int32} {l : Nat → Int64} {t : List jE} {z : Nat × Nat × Nat × (Nat → Int32)}  : jev (D + 1) 169 3 ([some (.ref 79), d1], []) [.int u0] (jXt cx (jY f g n b l t), z) = if u0 = 0 then (jbO (K_m_sum D cx f g n b l t z) (jk (D + 1) 169 17 ([some (.ref 79), d1], []) [])) else (jbO (K_m_knot (D + 1) cx f g n b l t z) (jk (D + 1) 169 6 ([some (.ref 79), d1], []) [])) := by
  refine (jev_blk 1 (pc' := if u0 = 0 then 15 else 4) (L' := ([some (.ref 79), d1], [])) (S' := []) (h' := (jXt cx (jY f g n b l t), z)) rfl).trans (jev_ite.trans (jite_congr (fun _ => ?_) (fun _ => ?_)))
  · refine (jev_blk 1 (pc' := 16) (L' := ([some (.ref 79), d1], [])) (S' := [.ref 79]) (h' := (jXt cx (jY f g n b l t), z)) rfl).trans ?_
    exact jev_callb (nx := 17) (rest := []) rfl
  · refine (jev_blk 1 (pc' := 5) (L' := ([some (.ref 79), d1], [])) (S' := [.ref 79]) (h' := (jXt cx (jY f g n b l t), z)) rfl).trans ?_
    exact jev_callb (nx := 6) (rest := []) rfl
set_option maxRecDepth 20000 in
theorem E_m_negation_17 {D : Nat}  {d1 : Option Value} {cx : jCX} {f : Nat → Int32} {g : Nat → Nat → Int32} {n : Nat → Nat → Int64} {b : Nat → Nat → Int32} {l : Nat → Int64} {t : List jE} {z : Nat × Nat × Nat × (Nat → Int32)}  : jev D 169 17 ([some (.ref 79), d1], []) [] (jXt cx (jY f g n b l t), z) = if (f 9) = 0 then (if (f 7) = 3 then (if (f 8) = 60 then (K_m_negation_41 D d1 cx f g n b l t z) else (if (f 8) = 62 then (K_m_negation_41 D d1 cx f g n b l t z) else (if (f 8) = 61 then (K_m_negation_41 D d1 cx f g n b l t z) else (if (f 8) < 256 then (some (.inl (none), (jXt cx (jY f g n b l t), z))) else (K_m_negation_41 D d1 cx f g n b l t z))))) else (some (.inl (none), (jXt cx (jY f g n b l t), z)))) else (some (.inl (none), (jXt cx (jY f g n b l t), z))) := by
  refine (jev_blk 3 (pc' := if (f 9) = 0 then 20 else 40) (L' := ([some (.ref 79), d1], [])) (S' := []) (h' := (jXt cx (jY f g n b l t), z)) rfl).trans (jev_ite.trans (jite_congr (fun _ => ?_) (fun _ => ?_)))
  · refine (jev_blk 4 (pc' := if (f 7) = 3 then 24 else 40) (L' := ([some (.ref 79), d1], [])) (S' := []) (h' := (jXt cx (jY f g n b l t), z)) rfl).trans (jev_ite.trans (jite_congr (fun _ => ?_) (fun _ => ?_)))
    · refine (jev_blk 4 (pc' := if (f 8) = 60 then 41 else 28) (L' := ([some (.ref 79), d1], [])) (S' := []) (h' := (jXt cx (jY f g n b l t), z)) rfl).trans (jev_ite.trans (jite_congr (fun _ => ?_) (fun _ => ?_)))
      · rfl
      · refine (jev_blk 4 (pc' := if (f 8) = 62 then 41 else 32) (L' := ([some (.ref 79), d1], [])) (S' := []) (h' := (jXt cx (jY f g n b l t), z)) rfl).trans (jev_ite.trans (jite_congr (fun _ => ?_) (fun _ => ?_)))
        · rfl
        · refine (jev_blk 4 (pc' := if (f 8) = 61 then 41 else 36) (L' := ([some (.ref 79), d1], [])) (S' := []) (h' := (jXt cx (jY f g n b l t), z)) rfl).trans (jev_ite.trans (jite_congr (fun _ => ?_) (fun _ => ?_)))
          · rfl
          · refine (jev_blk 4 (pc' := if (f 8) < 256 then 40 else 41) (L' := ([some (.ref 79), d1], [])) (S' := []) (h' := (jXt cx (jY f g n b l t), z)) rfl).trans (jev_ite.trans (jite_congr (fun _ => ?_) (fun _ => ?_)))
            · exact jev_fin rfl
            · rfl
    · exact jev_fin rfl
  · exact jev_fin rfl
set_option maxRecDepth 20000 in
theorem E_m_negation_41 {D : Nat}  {d1 : Option Value} {cx : jCX} {f : Nat → Int32} {g : Nat → Nat → Int32} {n : Nat → Nat → Int64} {b : Nat → Nat → Int32} {l : Nat → Int64} {t : List jE} {z : Nat × Nat × Nat × (Nat → Int32)}  : K_m_negation_41 D d1 cx f g n b l t z = jbO (K_m_knot D cx f g n b l t z) (jk D 169 46 ([some (.ref 79), some (.int (f 8))], []) []) := by
  refine (jev_blk 4 (pc' := 45) (L' := ([some (.ref 79), some (.int (f 8))], [])) (S' := [.ref 79]) (h' := (jXt cx (jY f g n b l t), z)) rfl).trans ?_
  exact jev_callb (nx := 46) (rest := []) rfl
set_option maxRecDepth 20000 in
theorem E_m_negation_6 {D : Nat}  {d1 : Option Value} {cx : jCX} {f : Nat → Int32} {g : Nat → Nat → Int32} {n : Nat → Nat → Int64} {b : Nat → Nat → Int32} {l : Nat → Int64} {t : List jE} {z : Nat × Nat × Nat × (Nat → Int32)}  : jev D 169 6 ([some (.ref 79), d1], []) [] (jXt cx (jY f g n b l t), z) = jbO (K_m_goOn D cx f g n b l t z) (jk D 169 8 ([some (.ref 79), d1], []) []) := by
  refine (jev_blk 1 (pc' := 7) (L' := ([some (.ref 79), d1], [])) (S' := [.ref 79]) (h' := (jXt cx (jY f g n b l t), z)) rfl).trans ?_
  exact jev_callb (nx := 8) (rest := []) rfl
set_option maxRecDepth 20000 in
theorem E_m_negation_46 {D : Nat}  {x1 : Int32} {cx : jCX} {f : Nat → Int32} {g : Nat → Nat → Int32} {n : Nat → Nat → Int64} {b : Nat → Nat → Int32} {l : Nat → Int64} {t : List jE} {z : Nat × Nat × Nat × (Nat → Int32)}  : jev D 169 46 ([some (.ref 79), some (.int x1)], []) [] (jXt cx (jY f g n b l t), z) = jbO (K_m_goOn D cx f g n b l t z) (jk D 169 48 ([some (.ref 79), some (.int x1)], []) []) := by
  refine (jev_blk 1 (pc' := 47) (L' := ([some (.ref 79), some (.int x1)], [])) (S' := [.ref 79]) (h' := (jXt cx (jY f g n b l t), z)) rfl).trans ?_
  exact jev_callb (nx := 48) (rest := []) rfl
