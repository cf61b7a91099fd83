-- EQUATIONS: one a block; E_ unfolds, L_ a loop's head
set_option maxRecDepth 20000 in
theorem E_m_fitsHour_11 {D : Nat}  {d1 : Option Value} {d2 : Option Value} {x3 : Int32} {d4 : Option Value} {u0 : Int32} {u1 : Int32} {cx : jCX} {f : Nat → Int32} {g : Nat → Nat → Int32} {n : Nat → Nat → Int64} {b : Nat → Nat → Int32} {l : Nat → Int64} {t : List jE} {z : Nat × Nat × Nat × (Nat → Int32)}  : jev D 235 11 ([some (.ref 79), d1, d2, some (.int x3), d4], []) [.int u0, .int u1, .ref 105] (jXt cx (jY f g n b l t), z) = if jout u1 138 then none else (K_m_fitsHour_14 D d1 d2 x3 1 cx f (jup g 23 ((jup (g 23) (u1.toNatClampNeg) u0))) n b l t z) := by
  refine (jev_grd (q := jout u1 138) (pc' := 12) (L' := ([some (.ref 79), d1, d2, some (.int x3), d4], [])) (S' := []) (h' := (jXt cx (jY f (jup g 23 ((jup (g 23) (u1.toNatClampNeg) u0))) n b l t), z)) rfl).trans (jite_congr (fun _ => rfl) (fun _ => ?_))
  exact jev_blk 2 rfl
set_option maxRecDepth 20000 in
theorem L_m_fitsHour_14 {D : Nat}  {d1 : Option Value} {d2 : Option Value} {x3 : Int32} {x4 : Int32} {cx : jCX} {f : Nat → Int32} {g : Nat → Nat → Int32} {n : Nat → Nat → Int64} {b : Nat → Nat → Int32} {l : Nat → Int64} {t : List jE} {z : Nat × Nat × Nat × (Nat → Int32)}  : K_m_fitsHour_14 D d1 d2 x3 x4 cx f g n b l t z = if x3 < x4 then (some (.inl (some (.int 1)), (jXt cx (jY f g n b l t), z))) else (jbO (K_m_passes D 1 cx f g n b l t z) (jk D 235 20 ([some (.ref 79), d1, d2, some (.int x3), some (.int x4)], []) [])) := by
  refine (jev_blk 3 (pc' := if x3 < x4 then 28 else 17) (L' := ([some (.ref 79), d1, d2, some (.int x3), some (.int x4)], [])) (S' := []) (h' := (jXt cx (jY f g n b l t), z)) rfl).trans (jev_ite.trans (jite_congr (fun _ => ?_) (fun _ => ?_)))
  · refine (jev_blk 1 (pc' := 29) (L' := ([some (.ref 79), d1, d2, some (.int x3), some (.int x4)], [])) (S' := [.int 1]) (h' := (jXt cx (jY f g n b l t), z)) rfl).trans ?_
    exact jev_fin rfl
  · refine (jev_blk 2 (pc' := 19) (L' := ([some (.ref 79), d1, d2, some (.int x3), some (.int x4)], [])) (S' := [.int 1, .ref 79]) (h' := (jXt cx (jY f g n b l t), z)) rfl).trans ?_
    exact jev_callb (nx := 20) (rest := []) rfl
set_option maxRecDepth 20000 in
theorem E_m_fitsHour_20 {D : Nat}  {d1 : Option Value} {d2 : Option Value} {x3 : Int32} {x4 : Int32} {cx : jCX} {f : Nat → Int32} {g : Nat → Nat → Int32} {n : Nat → Nat → Int64} {b : Nat → Nat → Int32} {l : Nat → Int64} {t : List jE} {z : Nat × Nat × Nat × (Nat → Int32)}  : jev D 235 20 ([some (.ref 79), d1, d2, some (.int x3), some (.int x4)], []) [] (jXt cx (jY f g n b l t), z) = jbO (K_m_isSo D x4 cx f g n b l t z) (jk D 235 23 ([some (.ref 79), d1, d2, some (.int x3), some (.int x4)], []) []) := by
  refine (jev_blk 2 (pc' := 22) (L' := ([some (.ref 79), d1, d2, some (.int x3), some (.int x4)], [])) (S' := [.int x4, .ref 79]) (h' := (jXt cx (jY f g n b l t), z)) rfl).trans ?_
  exact jev_callb (nx := 23) (rest := []) rfl
set_option maxRecDepth 20000 in
theorem E_m_fitsHour_23 {D : Nat}  {d1 : Option Value} {d2 : Option Value} {x3 : Int32} {x4 : Int32} {u0 : Int32} {cx : jCX} {f : Nat → Int32} {g : Nat → Nat → Int32} {n : Nat → Nat → Int64} {b : Nat → Nat → Int32} {l : Nat → Int64} {t : List jE} {z : Nat × Nat × Nat × (Nat → Int32)}  : jev D 235 23 ([some (.ref 79), d1, d2, some (.int x3), some (.int x4)], []) [.int u0] (jXt cx (jY f g n b l t), z) = if u0 = 0 then (some (.inl (some (.int 0)), (jXt cx (jY f g n b l t), z))) else (K_m_fitsHour_14 D d1 d2 x3 (x4 + 1) cx f g n b l t z) := by
  refine (jev_blk 1 (pc' := if u0 = 0 then 24 else 26) (L' := ([some (.ref 79), d1, d2, some (.int x3), some (.int x4)], [])) (S' := []) (h' := (jXt cx (jY f g n b l t), z)) rfl).trans (jev_ite.trans (jite_congr (fun _ => ?_) (fun _ => ?_)))
  · refine (jev_blk 1 (pc' := 25) (L' := ([some (.ref 79), d1, d2, some (.int x3), some (.int x4)], [])) (S' := [.int 0]) (h' := (jXt cx (jY f g n b l t), z)) rfl).trans ?_
    exact jev_fin rfl
  · exact jev_blk 2 rfl
set_option maxRecDepth 20000 in
theorem E_m_fits {D : Nat}  {a0 : Int32} {cx : jCX} {f : Nat → Int32} {g : Nat → Nat → Int32} {n : Nat → Nat → Int64} {b : Nat → Nat → Int32} {l : Nat → Int64} {t : List jE} {z : Nat × Nat × Nat × (Nat → Int32)}  : K_m_fits D a0 cx f g n b l t z = jbO (K_m_isScare D a0 cx (jup f 0 (0)) g n b l t z) (jk D 236 6 ([some (.ref 79), some (.int a0), none, none, none], []) []) := by
  refine (jev_blk 5 (pc' := 5) (L' := ([some (.ref 79), some (.int a0), none, none, none], [])) (S' := [.int a0, .ref 79]) (h' := (jXt cx (jY (jup f 0 (0)) g n b l t), z)) rfl).trans ?_
  exact jev_callb (nx := 6) (rest := []) rfl
set_option maxRecDepth 20000 in
theorem E_m_fits_6 {D : Nat}  {x1 : Int32} {d2 : Option Value} {d3 : Option Value} {d4 : Option Value} {u0 : Int32} {cx : jCX} {f : Nat → Int32} {g : Nat → Nat → Int32} {n : Nat → Nat → Int64} {b : Nat → Nat → Int32} {l : Nat → Int64} {t : List jE} {z : Nat × Nat × Nat × (Nat → Int32)}  : jev D 236 6 ([some (.ref 79), some (.int x1), d2, d3, d4], []) [.int u0] (jXt cx (jY f g n b l t), z) = if u0 = 0 then (some (.inl (some (.int (-1))), (jXt cx (jY f g n b l t), z))) else (K_m_fits_13 D x1 0 0 d4 cx f g n b l t z) := by
  refine (jev_blk 1 (pc' := if u0 = 0 then 7 else 9) (L' := ([some (.ref 79), some (.int x1), d2, d3, d4], [])) (S' := []) (h' := (jXt cx (jY f g n b l t), z)) rfl).trans (jev_ite.trans (jite_congr (fun _ => ?_) (fun _ => ?_)))
  · refine (jev_blk 1 (pc' := 8) (L' := ([some (.ref 79), some (.int x1), d2, d3, d4], [])) (S' := [.int (-1)]) (h' := (jXt cx (jY f g n b l t), z)) rfl).trans ?_
    exact jev_fin rfl
  · exact jev_blk 4 rfl
set_option maxRecDepth 20000 in
theorem L_m_fits_13 {D : Nat}  {x1 : Int32} {x2 : Int32} {x3 : Int32} {d4 : Option Value} {cx : jCX} {f : Nat → Int32} {g : Nat → Nat → Int32} {n : Nat → Nat → Int64} {b : Nat → Nat → Int32} {l : Nat → Int64} {t : List jE} {z : Nat × Nat × Nat × (Nat → Int32)}  : K_m_fits_13 D x1 x2 x3 d4 cx f g n b l t z = jbO (K_m_knownMany D cx f g n b l t z) (jk D 236 16 ([some (.ref 79), some (.int x1), some (.int x2), some (.int x3), d4], []) [.int x3]) := by
  refine (jev_blk 2 (pc' := 15) (L' := ([some (.ref 79), some (.int x1), some (.int x2), some (.int x3), d4], [])) (S' := [.ref 79, .int x3]) (h' := (jXt cx (jY f g n b l t), z)) rfl).trans ?_
  exact jev_callb (nx := 16) (rest := [.int x3]) rfl
set_option maxRecDepth 20000 in
theorem E_m_fits_16 {D : Nat}  {x1 : Int32} {x2 : Int32} {x3 : Int32} {d4 : Option Value} {u0 : Int32} {u1 : Int32} {cx : jCX} {f : Nat → Int32} {g : Nat → Nat → Int32} {n : Nat → Nat → Int64} {b : Nat → Nat → Int32} {l : Nat → Int64} {t : List jE} {z : Nat × Nat × Nat × (Nat → Int32)}  : jev D 236 16 ([some (.ref 79), some (.int x1), some (.int x2), some (.int x3), d4], []) [.int u0, .int u1] (jXt cx (jY f g n b l t), z) = if u1 < u0 then (if jout x3 24 then none else (K_m_fits_13 D x1 x2 (x3 + 1) d4 cx f g n (jup b 1 ((jup (b 1) (x3.toNatClampNeg) (jbool 0)))) l t z)) else (jbO (K_m_knownMany D cx f g n b l t z) (jk D 236 26 ([some (.ref 79), some (.int x1), some (.int x2), some (.int x3), d4], []) [])) := by
  refine (jev_blk 1 (pc' := if u1 < u0 then 17 else 24) (L' := ([some (.ref 79), some (.int x1), some (.int x2), some (.int x3), d4], [])) (S' := []) (h' := (jXt cx (jY f g n b l t), z)) rfl).trans (jev_ite.trans (jite_congr (fun _ => ?_) (fun _ => ?_)))
  · refine (jev_blk 4 (pc' := 21) (L' := ([some (.ref 79), some (.int x1), some (.int x2), some (.int x3), d4], [])) (S' := [.int 0, .int x3, .ref 117]) (h' := (jXt cx (jY f g n b l t), z)) rfl).trans ?_
    refine (jev_grd (q := jout x3 24) (pc' := 22) (L' := ([some (.ref 79), some (.int x1), some (.int x2), some (.int x3), d4], [])) (S' := []) (h' := (jXt cx (jY f g n (jup b 1 ((jup (b 1) (x3.toNatClampNeg) (jbool 0)))) l t), z)) rfl).trans (jite_congr (fun _ => rfl) (fun _ => ?_))
    exact jev_blk 2 rfl
  · refine (jev_blk 1 (pc' := 25) (L' := ([some (.ref 79), some (.int x1), some (.int x2), some (.int x3), d4], [])) (S' := [.ref 79]) (h' := (jXt cx (jY f g n b l t), z)) rfl).trans ?_
    exact jev_callb (nx := 26) (rest := []) rfl
set_option maxRecDepth 20000 in
theorem E_m_fits_26 {D : Nat}  {x1 : Int32} {x2 : Int32} {d3 : Option Value} {d4 : Option Value} {u0 : Int32} {cx : jCX} {f : Nat → Int32} {g : Nat → Nat → Int32} {n : Nat → Nat → Int64} {b : Nat → Nat → Int32} {l : Nat → Int64} {t : List jE} {z : Nat × Nat × Nat × (Nat → Int32)}  : jev D 236 26 ([some (.ref 79), some (.int x1), some (.int x2), d3, d4], []) [.int u0] (jXt cx (jY f g n b l t), z) = K_m_fits_29 D x1 x2 (u0 - 1) d4 cx f g n b l t z := by
  exact jev_blk 3 rfl
set_option maxRecDepth 20000 in
theorem L_m_fits_29 {D : Nat}  {x1 : Int32} {x2 : Int32} {x3 : Int32} {d4 : Option Value} {cx : jCX} {f : Nat → Int32} {g : Nat → Nat → Int32} {n : Nat → Nat → Int64} {b : Nat → Nat → Int32} {l : Nat → Int64} {t : List jE} {z : Nat × Nat × Nat × (Nat → Int32)}  : K_m_fits_29 D x1 x2 x3 d4 cx f g n b l t z = if x3 < 0 then (K_m_fits_54 D x1 x2 0 d4 cx f g n b l t z) else (if jout x3 24 then none else (if (b 1 x3.toNatClampNeg) = 0 then (if jout x3 24 then none else (if (g 33 x3.toNatClampNeg) = (-1) then (K_m_fits_50 D x1 x2 x3 d4 cx f g n b l t z) else (if jout x3 24 then none else (if jout (g 33 x3.toNatClampNeg) 24 then none else (K_m_fits_50 D x1 x2 x3 d4 cx f g n (jup b 1 ((jup (b 1) ((g 33 x3.toNatClampNeg).toNatClampNeg) (jbool 1)))) l t z))))) else (K_m_fits_50 D x1 x2 x3 d4 cx f g n b l t z))) := by
  refine (jev_blk 2 (pc' := if x3 < 0 then 52 else 31) (L' := ([some (.ref 79), some (.int x1), some (.int x2), some (.int x3), d4], [])) (S' := []) (h' := (jXt cx (jY f g n b l t), z)) rfl).trans (jev_ite.trans (jite_congr (fun _ => ?_) (fun _ => ?_)))
  · exact jev_blk 2 rfl
  · refine (jev_blk 3 (pc' := 34) (L' := ([some (.ref 79), some (.int x1), some (.int x2), some (.int x3), d4], [])) (S' := [.int x3, .ref 117]) (h' := (jXt cx (jY f g n b l t), z)) rfl).trans ?_
    refine (jev_grd (q := jout x3 24) (pc' := 35) (L' := ([some (.ref 79), some (.int x1), some (.int x2), some (.int x3), d4], [])) (S' := [.int (b 1 x3.toNatClampNeg)]) (h' := (jXt cx (jY f g n b l t), z)) rfl).trans (jite_congr (fun _ => rfl) (fun _ => ?_))
    refine (jev_blk 1 (pc' := if (b 1 x3.toNatClampNeg) = 0 then 36 else 50) (L' := ([some (.ref 79), some (.int x1), some (.int x2), some (.int x3), d4], [])) (S' := []) (h' := (jXt cx (jY f g n b l t), z)) rfl).trans (jev_ite.trans (jite_congr (fun _ => ?_) (fun _ => ?_)))
    · refine (jev_blk 3 (pc' := 39) (L' := ([some (.ref 79), some (.int x1), some (.int x2), some (.int x3), d4], [])) (S' := [.int x3, .ref 116]) (h' := (jXt cx (jY f g n b l t), z)) rfl).trans ?_
      refine (jev_grd (q := jout x3 24) (pc' := 40) (L' := ([some (.ref 79), some (.int x1), some (.int x2), some (.int x3), d4], [])) (S' := [.int (g 33 x3.toNatClampNeg)]) (h' := (jXt cx (jY f g n b l t), z)) rfl).trans (jite_congr (fun _ => rfl) (fun _ => ?_))
      refine (jev_blk 2 (pc' := if (g 33 x3.toNatClampNeg) = (-1) then 50 else 42) (L' := ([some (.ref 79), some (.int x1), some (.int x2), some (.int x3), d4], [])) (S' := []) (h' := (jXt cx (jY f g n b l t), z)) rfl).trans (jev_ite.trans (jite_congr (fun _ => ?_) (fun _ => ?_)))
      · rfl
      · refine (jev_blk 5 (pc' := 47) (L' := ([some (.ref 79), some (.int x1), some (.int x2), some (.int x3), d4], [])) (S' := [.int x3, .ref 116, .ref 117]) (h' := (jXt cx (jY f g n b l t), z)) rfl).trans ?_
        refine (jev_grd (q := jout x3 24) (pc' := 48) (L' := ([some (.ref 79), some (.int x1), some (.int x2), some (.int x3), d4], [])) (S' := [.int (g 33 x3.toNatClampNeg), .ref 117]) (h' := (jXt cx (jY f g n b l t), z)) rfl).trans (jite_congr (fun _ => rfl) (fun _ => ?_))
        refine (jev_blk 1 (pc' := 49) (L' := ([some (.ref 79), some (.int x1), some (.int x2), some (.int x3), d4], [])) (S' := [.int 1, .int (g 33 x3.toNatClampNeg), .ref 117]) (h' := (jXt cx (jY f g n b l t), z)) rfl).trans ?_
        refine (jev_grd (q := jout (g 33 x3.toNatClampNeg) 24) (pc' := 50) (L' := ([some (.ref 79), some (.int x1), some (.int x2), some (.int x3), d4], [])) (S' := []) (h' := (jXt cx (jY f g n (jup b 1 ((jup (b 1) ((g 33 x3.toNatClampNeg).toNatClampNeg) (jbool 1)))) l t), z)) rfl).trans (jite_congr (fun _ => rfl) (fun _ => ?_))
        rfl
    · rfl
set_option maxRecDepth 20000 in
theorem L_m_fits_54 {D : Nat}  {x1 : Int32} {x2 : Int32} {x3 : Int32} {d4 : Option Value} {cx : jCX} {f : Nat → Int32} {g : Nat → Nat → Int32} {n : Nat → Nat → Int64} {b : Nat → Nat → Int32} {l : Nat → Int64} {t : List jE} {z : Nat × Nat × Nat × (Nat → Int32)}  : K_m_fits_54 D x1 x2 x3 d4 cx f g n b l t z = jbO (K_m_knownMany D cx f g n b l t z) (jk D 236 57 ([some (.ref 79), some (.int x1), some (.int x2), some (.int x3), d4], []) [.int x3]) := by
  refine (jev_blk 2 (pc' := 56) (L' := ([some (.ref 79), some (.int x1), some (.int x2), some (.int x3), d4], [])) (S' := [.ref 79, .int x3]) (h' := (jXt cx (jY f g n b l t), z)) rfl).trans ?_
  exact jev_callb (nx := 57) (rest := [.int x3]) rfl
set_option maxRecDepth 20000 in
theorem E_m_fits_50 {D : Nat}  {x1 : Int32} {x2 : Int32} {x3 : Int32} {d4 : Option Value} {cx : jCX} {f : Nat → Int32} {g : Nat → Nat → Int32} {n : Nat → Nat → Int64} {b : Nat → Nat → Int32} {l : Nat → Int64} {t : List jE} {z : Nat × Nat × Nat × (Nat → Int32)}  : K_m_fits_50 D x1 x2 x3 d4 cx f g n b l t z = K_m_fits_29 D x1 x2 (x3 + (-1)) d4 cx f g n b l t z := by
  exact jev_blk 2 rfl
set_option maxRecDepth 20000 in
theorem E_m_fits_57 {D : Nat}  {x1 : Int32} {x2 : Int32} {x3 : Int32} {d4 : Option Value} {u0 : Int32} {u1 : Int32} {cx : jCX} {f : Nat → Int32} {g : Nat → Nat → Int32} {n : Nat → Nat → Int64} {b : Nat → Nat → Int32} {l : Nat → Int64} {t : List jE} {z : Nat × Nat × Nat × (Nat → Int32)}  : jev D 236 57 ([some (.ref 79), some (.int x1), some (.int x2), some (.int x3), d4], []) [.int u0, .int u1] (jXt cx (jY f g n b l t), z) = if u1 < u0 then (if jout x3 24 then none else (if (b 1 x3.toNatClampNeg) = 0 then (if jout x3 24 then none else (if (g 33 x3.toNatClampNeg) = (-1) then (if jout x3 24 then none else (K_m_fits_76 D x1 (if x2 < (g 30 x3.toNatClampNeg) then (g 30 x3.toNatClampNeg) else x2) x3 d4 cx f g n b l t z)) else (K_m_fits_76 D x1 x2 x3 d4 cx f g n b l t z))) else (K_m_fits_76 D x1 x2 x3 d4 cx f g n b l t z))) else (K_m_fits_82 D x1 x2 0 0 cx f g n b l t z) := by
  refine (jev_blk 1 (pc' := if u1 < u0 then 58 else 78) (L' := ([some (.ref 79), some (.int x1), some (.int x2), some (.int x3), d4], [])) (S' := []) (h' := (jXt cx (jY f g n b l t), z)) rfl).trans (jev_ite.trans (jite_congr (fun _ => ?_) (fun _ => ?_)))
  · refine (jev_blk 3 (pc' := 61) (L' := ([some (.ref 79), some (.int x1), some (.int x2), some (.int x3), d4], [])) (S' := [.int x3, .ref 117]) (h' := (jXt cx (jY f g n b l t), z)) rfl).trans ?_
    refine (jev_grd (q := jout x3 24) (pc' := 62) (L' := ([some (.ref 79), some (.int x1), some (.int x2), some (.int x3), d4], [])) (S' := [.int (b 1 x3.toNatClampNeg)]) (h' := (jXt cx (jY f g n b l t), z)) rfl).trans (jite_congr (fun _ => rfl) (fun _ => ?_))
    refine (jev_blk 1 (pc' := if (b 1 x3.toNatClampNeg) = 0 then 63 else 76) (L' := ([some (.ref 79), some (.int x1), some (.int x2), some (.int x3), d4], [])) (S' := []) (h' := (jXt cx (jY f g n b l t), z)) rfl).trans (jev_ite.trans (jite_congr (fun _ => ?_) (fun _ => ?_)))
    · refine (jev_blk 3 (pc' := 66) (L' := ([some (.ref 79), some (.int x1), some (.int x2), some (.int x3), d4], [])) (S' := [.int x3, .ref 116]) (h' := (jXt cx (jY f g n b l t), z)) rfl).trans ?_
      refine (jev_grd (q := jout x3 24) (pc' := 67) (L' := ([some (.ref 79), some (.int x1), some (.int x2), some (.int x3), d4], [])) (S' := [.int (g 33 x3.toNatClampNeg)]) (h' := (jXt cx (jY f g n b l t), z)) rfl).trans (jite_congr (fun _ => rfl) (fun _ => ?_))
      refine (jev_blk 2 (pc' := if (g 33 x3.toNatClampNeg) = (-1) then 69 else 76) (L' := ([some (.ref 79), some (.int x1), some (.int x2), some (.int x3), d4], [])) (S' := []) (h' := (jXt cx (jY f g n b l t), z)) rfl).trans (jev_ite.trans (jite_congr (fun _ => ?_) (fun _ => ?_)))
      · refine (jev_blk 4 (pc' := 73) (L' := ([some (.ref 79), some (.int x1), some (.int x2), some (.int x3), d4], [])) (S' := [.int x3, .ref 112, .int x2]) (h' := (jXt cx (jY f g n b l t), z)) rfl).trans ?_
        refine (jev_grd (q := jout x3 24) (pc' := 74) (L' := ([some (.ref 79), some (.int x1), some (.int x2), some (.int x3), d4], [])) (S' := [.int (g 30 x3.toNatClampNeg), .int x2]) (h' := (jXt cx (jY f g n b l t), z)) rfl).trans (jite_congr (fun _ => rfl) (fun _ => ?_))
        refine (jev_prim (a := 7) (As := [.int x2, .int (g 30 x3.toNatClampNeg)]) (nx := 75) (rest := []) rfl (r := some (.int (if x2 < (g 30 x3.toNatClampNeg) then (g 30 x3.toNatClampNeg) else x2))) (h' := (jXt cx (jY f g n b l t), z)) rfl).trans ?_
        exact jev_blk 1 rfl
      · rfl
    · rfl
  · exact jev_blk 4 rfl
set_option maxRecDepth 20000 in
theorem E_m_fits_76 {D : Nat}  {x1 : Int32} {x2 : Int32} {x3 : Int32} {d4 : Option Value} {cx : jCX} {f : Nat → Int32} {g : Nat → Nat → Int32} {n : Nat → Nat → Int64} {b : Nat → Nat → Int32} {l : Nat → Int64} {t : List jE} {z : Nat × Nat × Nat × (Nat → Int32)}  : K_m_fits_76 D x1 x2 x3 d4 cx f g n b l t z = K_m_fits_54 D x1 x2 (x3 + 1) d4 cx f g n b l t z := by
  exact jev_blk 2 rfl
set_option maxRecDepth 20000 in
theorem L_m_fits_82 {D : Nat}  {x1 : Int32} {x2 : Int32} {x3 : Int32} {x4 : Int32} {cx : jCX} {f : Nat → Int32} {g : Nat → Nat → Int32} {n : Nat → Nat → Int64} {b : Nat → Nat → Int32} {l : Nat → Int64} {t : List jE} {z : Nat × Nat × Nat × (Nat → Int32)}  : K_m_fits_82 D x1 x2 x3 x4 cx f g n b l t z = if x4 < 12 then (jbO (K_m_fitsHour D x1 x4 x2 cx f g n b l t z) (jk D 236 91 ([some (.ref 79), some (.int x1), some (.int x2), some (.int x3), some (.int x4)], []) [.int x3])) else (some (.inl (some (.int x3)), (jXt cx (jY f g n b l t), z))) := by
  refine (jev_blk 3 (pc' := if x4 < 12 then 85 else 101) (L' := ([some (.ref 79), some (.int x1), some (.int x2), some (.int x3), some (.int x4)], [])) (S' := []) (h' := (jXt cx (jY f g n b l t), z)) rfl).trans (jev_ite.trans (jite_congr (fun _ => ?_) (fun _ => ?_)))
  · refine (jev_blk 5 (pc' := 90) (L' := ([some (.ref 79), some (.int x1), some (.int x2), some (.int x3), some (.int x4)], [])) (S' := [.int x2, .int x4, .int x1, .ref 79, .int x3]) (h' := (jXt cx (jY f g n b l t), z)) rfl).trans ?_
    exact jev_callb (nx := 91) (rest := [.int x3]) rfl
  · refine (jev_blk 1 (pc' := 102) (L' := ([some (.ref 79), some (.int x1), some (.int x2), some (.int x3), some (.int x4)], [])) (S' := [.int x3]) (h' := (jXt cx (jY f g n b l t), z)) rfl).trans ?_
    exact jev_fin rfl
set_option maxRecDepth 20000 in
theorem E_m_fits_91 {D : Nat}  {x1 : Int32} {x2 : Int32} {d3 : Option Value} {x4 : Int32} {u0 : Int32} {u1 : Int32} {cx : jCX} {f : Nat → Int32} {g : Nat → Nat → Int32} {n : Nat → Nat → Int64} {b : Nat → Nat → Int32} {l : Nat → Int64} {t : List jE} {z : Nat × Nat × Nat × (Nat → Int32)}  : jev D 236 91 ([some (.ref 79), some (.int x1), some (.int x2), d3, some (.int x4)], []) [.int u0, .int u1] (jXt cx (jY f g n b l t), z) = if u0 = 0 then (K_m_fits_97 D x1 x2 d3 x4 0 u1 cx f g n b l t z) else (K_m_fits_97 D x1 x2 d3 x4 (1 <<< (x4 &&& 31)) u1 cx f g n b l t z) := by
  refine (jev_blk 1 (pc' := if u0 = 0 then 96 else 92) (L' := ([some (.ref 79), some (.int x1), some (.int x2), d3, some (.int x4)], [])) (S' := [.int u1]) (h' := (jXt cx (jY f g n b l t), z)) rfl).trans (jev_ite.trans (jite_congr (fun _ => ?_) (fun _ => ?_)))
  · exact jev_blk 1 rfl
  · exact jev_blk 4 rfl
set_option maxRecDepth 20000 in
theorem E_m_fits_97 {D : Nat}  {x1 : Int32} {x2 : Int32} {d3 : Option Value} {x4 : Int32} {u0 : Int32} {u1 : Int32} {cx : jCX} {f : Nat → Int32} {g : Nat → Nat → Int32} {n : Nat → Nat → Int64} {b : Nat → Nat → Int32} {l : Nat → Int64} {t : List jE} {z : Nat × Nat × Nat × (Nat → Int32)}  : K_m_fits_97 D x1 x2 d3 x4 u0 u1 cx f g n b l t z = K_m_fits_82 D x1 x2 (u1 ||| u0) (x4 + 1) cx f g n b l t z := by
  exact jev_blk 4 rfl
set_option maxRecDepth 20000 in
theorem E_m_chance {D : Nat}  {a0 : Int32} {a1 : Int32} {a2 : Int32} {cx : jCX} {f : Nat → Int32} {g : Nat → Nat → Int32} {n : Nat → Nat → Int64} {b : Nat → Nat → Int32} {l : Nat → Int64} {t : List jE} {z : Nat × Nat × Nat × (Nat → Int32)}  : K_m_chance D a0 a1 a2 cx f g n b l t z = if a0 < 0 then (some (.inl (some (.int (-1))), (jXt cx (jY (jup f 0 (0)) g n b l t), z))) else (jbO (K_m_isDays D a1 cx (jup f 0 (0)) g n b l t z) (jk D 237 7 ([some (.ref 79), some (.int a0), some (.int a1), some (.int a2), none, none, none, none], []) [])) := by
  refine (jev_blk 5 (pc' := if a0 < 0 then 13 else 5) (L' := ([some (.ref 79), some (.int a0), some (.int a1), some (.int a2), none, none, none, none], [])) (S' := []) (h' := (jXt cx (jY (jup f 0 (0)) g n b l t), z)) rfl).trans (jev_ite.trans (jite_congr (fun _ => ?_) (fun _ => ?_)))
  · refine (jev_blk 1 (pc' := 14) (L' := ([some (.ref 79), some (.int a0), some (.int a1), some (.int a2), none, none, none, none], [])) (S' := [.int (-1)]) (h' := (jXt cx (jY (jup f 0 (0)) g n b l t), z)) rfl).trans ?_
    exact jev_fin rfl
  · refine (jev_blk 1 (pc' := 6) (L' := ([some (.ref 79), some (.int a0), some (.int a1), some (.int a2), none, none, none, none], [])) (S' := [.int a1]) (h' := (jXt cx (jY (jup f 0 (0)) g n b l t), z)) rfl).trans ?_
    exact jev_callb (nx := 7) (rest := []) rfl
set_option maxRecDepth 20000 in
theorem E_m_chance_7 {D : Nat}  {x1 : Int32} {x2 : Int32} {x3 : Int32} {d4 : Option Value} {d5 : Option Value} {d6 : Option Value} {d7 : Option Value} {u0 : Int32} {cx : jCX} {f : Nat → Int32} {g : Nat → Nat → Int32} {n : Nat → Nat → Int64} {b : Nat → Nat → Int32} {l : Nat → Int64} {t : List jE} {z : Nat × Nat × Nat × (Nat → Int32)}  : jev D 237 7 ([some (.ref 79), some (.int x1), some (.int x2), some (.int x3), d4, d5, d6, d7], []) [.int u0] (jXt cx (jY f g n b l t), z) = if u0 = 0 then (some (.inl (some (.int (-1))), (jXt cx (jY f g n b l t), z))) else (if x3 < 0 then (some (.inl (some (.int (-1))), (jXt cx (jY f g n b l t), z))) else (if 9999 < x3 then (some (.inl (some (.int (-1))), (jXt cx (jY f g n b l t), z))) else (K_m_chance_21 D (some (.int x1)) x2 x3 x1 0 0 d7 cx f g n b l t z))) := by
  refine (jev_blk 1 (pc' := if u0 = 0 then 13 else 8) (L' := ([some (.ref 79), some (.int x1), some (.int x2), some (.int x3), d4, d5, d6, d7], [])) (S' := []) (h' := (jXt cx (jY f g n b l t), z)) rfl).trans (jev_ite.trans (jite_congr (fun _ => ?_) (fun _ => ?_)))
  · refine (jev_blk 1 (pc' := 14) (L' := ([some (.ref 79), some (.int x1), some (.int x2), some (.int x3), d4, d5, d6, d7], [])) (S' := [.int (-1)]) (h' := (jXt cx (jY f g n b l t), z)) rfl).trans ?_
    exact jev_fin rfl
  · refine (jev_blk 2 (pc' := if x3 < 0 then 13 else 10) (L' := ([some (.ref 79), some (.int x1), some (.int x2), some (.int x3), d4, d5, d6, d7], [])) (S' := []) (h' := (jXt cx (jY f g n b l t), z)) rfl).trans (jev_ite.trans (jite_congr (fun _ => ?_) (fun _ => ?_)))
    · refine (jev_blk 1 (pc' := 14) (L' := ([some (.ref 79), some (.int x1), some (.int x2), some (.int x3), d4, d5, d6, d7], [])) (S' := [.int (-1)]) (h' := (jXt cx (jY f g n b l t), z)) rfl).trans ?_
      exact jev_fin rfl
    · refine (jev_blk 3 (pc' := if 9999 < x3 then 13 else 15) (L' := ([some (.ref 79), some (.int x1), some (.int x2), some (.int x3), d4, d5, d6, d7], [])) (S' := []) (h' := (jXt cx (jY f g n b l t), z)) rfl).trans (jev_ite.trans (jite_congr (fun _ => ?_) (fun _ => ?_)))
      · refine (jev_blk 1 (pc' := 14) (L' := ([some (.ref 79), some (.int x1), some (.int x2), some (.int x3), d4, d5, d6, d7], [])) (S' := [.int (-1)]) (h' := (jXt cx (jY f g n b l t), z)) rfl).trans ?_
        exact jev_fin rfl
      · exact jev_blk 6 rfl
set_option maxRecDepth 20000 in
theorem L_m_chance_21 {D : Nat}  {d1 : Option Value} {x2 : Int32} {x3 : Int32} {x4 : Int32} {x5 : Int32} {x6 : Int32} {d7 : Option Value} {cx : jCX} {f : Nat → Int32} {g : Nat → Nat → Int32} {n : Nat → Nat → Int64} {b : Nat → Nat → Int32} {l : Nat → Int64} {t : List jE} {z : Nat × Nat × Nat × (Nat → Int32)}  : K_m_chance_21 D d1 x2 x3 x4 x5 x6 d7 cx f g n b l t z = if x6 < 10 then (K_m_chance_26 D d1 x2 x3 x4 x5 x6 1 cx f g n b l t z) else (some (.inl (some (.int x5)), (jXt cx (jY f g n b l t), z))) := by
  refine (jev_blk 3 (pc' := if x6 < 10 then 24 else 85) (L' := ([some (.ref 79), d1, some (.int x2), some (.int x3), some (.int x4), some (.int x5), some (.int x6), d7], [])) (S' := []) (h' := (jXt cx (jY f g n b l t), z)) rfl).trans (jev_ite.trans (jite_congr (fun _ => ?_) (fun _ => ?_)))
  · exact jev_blk 2 rfl
  · refine (jev_blk 1 (pc' := 86) (L' := ([some (.ref 79), d1, some (.int x2), some (.int x3), some (.int x4), some (.int x5), some (.int x6), d7], [])) (S' := [.int x5]) (h' := (jXt cx (jY f g n b l t), z)) rfl).trans ?_
    exact jev_fin rfl
set_option maxRecDepth 20000 in
theorem L_m_chance_26 {D : Nat}  {d1 : Option Value} {x2 : Int32} {x3 : Int32} {x4 : Int32} {x5 : Int32} {x6 : Int32} {x7 : Int32} {cx : jCX} {f : Nat → Int32} {g : Nat → Nat → Int32} {n : Nat → Nat → Int64} {b : Nat → Nat → Int32} {l : Nat → Int64} {t : List jE} {z : Nat × Nat × Nat × (Nat → Int32)}  : K_m_chance_26 D d1 x2 x3 x4 x5 x6 x7 cx f g n b l t z = if x2 < x7 then (jbO (K_m_copies D 1 0 cx (jup f 16 ((g 14 0))) g n b l t z) (jk D 237 58 ([some (.ref 79), d1, some (.int x2), some (.int x3), some (.int x4), some (.int x5), some (.int x6), some (.int x7)], []) [])) else (if jout x7 10 then none else (K_m_chance_26 D d1 x2 x3 (((x4 * 1103515245) + 12345) &&& 2147483647) x5 x6 (x7 + 1) cx f (jup g 25 ((jup (g 25) (x7.toNatClampNeg) (((((x4 * 1103515245) + 12345) &&& 2147483647) >>> (16 &&& 31)) - ((((x4 * 1103515245) + 12345) &&& 2147483647) >>> (16 &&& 31)) / 10 * 10)))) n b l t z)) := by
  refine (jev_blk 3 (pc' := if x2 < x7 then 48 else 29) (L' := ([some (.ref 79), d1, some (.int x2), some (.int x3), some (.int x4), some (.int x5), some (.int x6), some (.int x7)], [])) (S' := []) (h' := (jXt cx (jY f g n b l t), z)) rfl).trans (jev_ite.trans (jite_congr (fun _ => ?_) (fun _ => ?_)))
  · refine (jev_blk 9 (pc' := 57) (L' := ([some (.ref 79), d1, some (.int x2), some (.int x3), some (.int x4), some (.int x5), some (.int x6), some (.int x7)], [])) (S' := [.int 0, .int 1, .ref 79]) (h' := (jXt cx (jY (jup f 16 ((g 14 0))) g n b l t), z)) rfl).trans ?_
    exact jev_callb (nx := 58) (rest := []) rfl
  · refine (jev_blk 16 (pc' := 45) (L' := ([some (.ref 79), d1, some (.int x2), some (.int x3), some (.int (((x4 * 1103515245) + 12345) &&& 2147483647)), some (.int x5), some (.int x6), some (.int x7)], [])) (S' := [.int (((((x4 * 1103515245) + 12345) &&& 2147483647) >>> (16 &&& 31)) - ((((x4 * 1103515245) + 12345) &&& 2147483647) >>> (16 &&& 31)) / 10 * 10), .int x7, .ref 107]) (h' := (jXt cx (jY f g n b l t), z)) rfl).trans ?_
    refine (jev_grd (q := jout x7 10) (pc' := 46) (L' := ([some (.ref 79), d1, some (.int x2), some (.int x3), some (.int (((x4 * 1103515245) + 12345) &&& 2147483647)), some (.int x5), some (.int x6), some (.int x7)], [])) (S' := []) (h' := (jXt cx (jY f (jup g 25 ((jup (g 25) (x7.toNatClampNeg) (((((x4 * 1103515245) + 12345) &&& 2147483647) >>> (16 &&& 31)) - ((((x4 * 1103515245) + 12345) &&& 2147483647) >>> (16 &&& 31)) / 10 * 10)))) n b l t), z)) rfl).trans (jite_congr (fun _ => rfl) (fun _ => ?_))
    exact jev_blk 2 rfl
set_option maxRecDepth 20000 in
theorem E_m_chance_58 {D : Nat}  {d1 : Option Value} {x2 : Int32} {x3 : Int32} {x4 : Int32} {x5 : Int32} {x6 : Int32} {d7 : Option Value} {cx : jCX} {f : Nat → Int32} {g : Nat → Nat → Int32} {n : Nat → Nat → Int64} {b : Nat → Nat → Int32} {l : Nat → Int64} {t : List jE} {z : Nat × Nat × Nat × (Nat → Int32)}  : jev D 237 58 ([some (.ref 79), d1, some (.int x2), some (.int x3), some (.int x4), some (.int x5), some (.int x6), d7], []) [] (jXt cx (jY f g n b l t), z) = jbO (K_m_runs D (x2 + 1) cx f g n b l t z) (jk D 237 63 ([some (.ref 79), d1, some (.int x2), some (.int x3), some (.int x4), some (.int x5), some (.int x6), d7], []) []) := by
  refine (jev_blk 4 (pc' := 62) (L' := ([some (.ref 79), d1, some (.int x2), some (.int x3), some (.int x4), some (.int x5), some (.int x6), d7], [])) (S' := [.int (x2 + 1), .ref 79]) (h' := (jXt cx (jY f g n b l t), z)) rfl).trans ?_
  exact jev_callb (nx := 63) (rest := []) rfl
set_option maxRecDepth 20000 in
theorem E_m_chance_63 {D : Nat}  {d1 : Option Value} {x2 : Int32} {x3 : Int32} {x4 : Int32} {x5 : Int32} {x6 : Int32} {d7 : Option Value} {cx : jCX} {f : Nat → Int32} {g : Nat → Nat → Int32} {n : Nat → Nat → Int64} {b : Nat → Nat → Int32} {l : Nat → Int64} {t : List jE} {z : Nat × Nat × Nat × (Nat → Int32)}  : jev D 237 63 ([some (.ref 79), d1, some (.int x2), some (.int x3), some (.int x4), some (.int x5), some (.int x6), d7], []) [] (jXt cx (jY f g n b l t), z) = if ((g 16 1) - (g 16 0)) < x3 then (K_m_chance_81 D d1 x2 x3 x4 (some (.int x5)) x6 d7 0 x5 cx (jup f 16 ((-1))) g n b l t z) else (K_m_chance_81 D d1 x2 x3 x4 (some (.int x5)) x6 d7 1 x5 cx (jup f 16 ((-1))) g n b l t z) := by
  refine (jev_blk 15 (pc' := if ((g 16 1) - (g 16 0)) < x3 then 80 else 78) (L' := ([some (.ref 79), d1, some (.int x2), some (.int x3), some (.int x4), some (.int x5), some (.int x6), d7], [])) (S' := [.int x5]) (h' := (jXt cx (jY (jup f 16 ((-1))) g n b l t), z)) rfl).trans (jev_ite.trans (jite_congr (fun _ => ?_) (fun _ => ?_)))
  · exact jev_blk 1 rfl
  · exact jev_blk 2 rfl
set_option maxRecDepth 20000 in
theorem E_m_chance_81 {D : Nat}  {d1 : Option Value} {x2 : Int32} {x3 : Int32} {x4 : Int32} {d5 : Option Value} {x6 : Int32} {d7 : Option Value} {u0 : Int32} {u1 : Int32} {cx : jCX} {f : Nat → Int32} {g : Nat → Nat → Int32} {n : Nat → Nat → Int64} {b : Nat → Nat → Int32} {l : Nat → Int64} {t : List jE} {z : Nat × Nat × Nat × (Nat → Int32)}  : K_m_chance_81 D d1 x2 x3 x4 d5 x6 d7 u0 u1 cx f g n b l t z = K_m_chance_21 D d1 x2 x3 x4 (u1 + u0) (x6 + 1) d7 cx f g n b l t z := by
  exact jev_blk 4 rfl
set_option maxRecDepth 20000 in
theorem E_m_tried {D : Nat}  {a0 : Int32} {a1 : Int32} {a2 : Int32} {cx : jCX} {f : Nat → Int32} {g : Nat → Nat → Int32} {n : Nat → Nat → Int64} {b : Nat → Nat → Int32} {l : Nat → Int64} {t : List jE} {z : Nat × Nat × Nat × (Nat → Int32)}  : K_m_tried D a0 a1 a2 cx f g n b l t z = if a0 = 2 then (jbO (K_m_isScare D a1 cx (jup f 0 (0)) g n b l t z) (jk D 238 9 ([some (.ref 79), some (.int a0), some (.int a1), some (.int a2), none], []) [])) else (if a0 < 0 then (K_m_tried_19 D a0 a1 a2 none cx (jup f 0 (0)) g n b l t z) else (if 5 < a0 then (K_m_tried_19 D a0 a1 a2 none cx (jup f 0 (0)) g n b l t z) else (if a1 = 0 then (K_m_tried_20 D a0 a1 a2 none 1 cx (jup f 0 (0)) g n b l t z) else (K_m_tried_19 D a0 a1 a2 none cx (jup f 0 (0)) g n b l t z)))) := by
  refine (jev_blk 6 (pc' := if a0 = 2 then 6 else 10) (L' := ([some (.ref 79), some (.int a0), some (.int a1), some (.int a2), none], [])) (S' := []) (h' := (jXt cx (jY (jup f 0 (0)) g n b l t), z)) rfl).trans (jev_ite.trans (jite_congr (fun _ => ?_) (fun _ => ?_)))
  · refine (jev_blk 2 (pc' := 8) (L' := ([some (.ref 79), some (.int a0), some (.int a1), some (.int a2), none], [])) (S' := [.int a1, .ref 79]) (h' := (jXt cx (jY (jup f 0 (0)) g n b l t), z)) rfl).trans ?_
    exact jev_callb (nx := 9) (rest := []) rfl
  · refine (jev_blk 2 (pc' := if a0 < 0 then 19 else 12) (L' := ([some (.ref 79), some (.int a0), some (.int a1), some (.int a2), none], [])) (S' := []) (h' := (jXt cx (jY (jup f 0 (0)) g n b l t), z)) rfl).trans (jev_ite.trans (jite_congr (fun _ => ?_) (fun _ => ?_)))
    · rfl
    · refine (jev_blk 3 (pc' := if 5 < a0 then 19 else 15) (L' := ([some (.ref 79), some (.int a0), some (.int a1), some (.int a2), none], [])) (S' := []) (h' := (jXt cx (jY (jup f 0 (0)) g n b l t), z)) rfl).trans (jev_ite.trans (jite_congr (fun _ => ?_) (fun _ => ?_)))
      · rfl
      · refine (jev_blk 2 (pc' := if a1 = 0 then 17 else 19) (L' := ([some (.ref 79), some (.int a0), some (.int a1), some (.int a2), none], [])) (S' := []) (h' := (jXt cx (jY (jup f 0 (0)) g n b l t), z)) rfl).trans (jev_ite.trans (jite_congr (fun _ => ?_) (fun _ => ?_)))
        · exact jev_blk 2 rfl
        · rfl
set_option maxRecDepth 20000 in
theorem E_m_tried_19 {D : Nat}  {x1 : Int32} {x2 : Int32} {x3 : Int32} {d4 : Option Value} {cx : jCX} {f : Nat → Int32} {g : Nat → Nat → Int32} {n : Nat → Nat → Int64} {b : Nat → Nat → Int32} {l : Nat → Int64} {t : List jE} {z : Nat × Nat × Nat × (Nat → Int32)}  : K_m_tried_19 D x1 x2 x3 d4 cx f g n b l t z = K_m_tried_20 D x1 x2 x3 d4 0 cx f g n b l t z := by
  exact jev_blk 1 rfl
set_option maxRecDepth 20000 in
theorem E_m_tried_20 {D : Nat}  {x1 : Int32} {x2 : Int32} {x3 : Int32} {d4 : Option Value} {u0 : Int32} {cx : jCX} {f : Nat → Int32} {g : Nat → Nat → Int32} {n : Nat → Nat → Int64} {b : Nat → Nat → Int32} {l : Nat → Int64} {t : List jE} {z : Nat × Nat × Nat × (Nat → Int32)}  : K_m_tried_20 D x1 x2 x3 d4 u0 cx f g n b l t z = if u0 = 0 then (some (.inl (some (.int (-1))), (jXt cx (jY f g n b l t), z))) else (jbO (K_m_isDays D x3 cx f g n b l t z) (jk D 238 25 ([some (.ref 79), some (.int x1), some (.int x2), some (.int x3), some (.int u0)], []) [])) := by
  refine (jev_blk 3 (pc' := if u0 = 0 then 26 else 23) (L' := ([some (.ref 79), some (.int x1), some (.int x2), some (.int x3), some (.int u0)], [])) (S' := []) (h' := (jXt cx (jY f g n b l t), z)) rfl).trans (jev_ite.trans (jite_congr (fun _ => ?_) (fun _ => ?_)))
  · refine (jev_blk 1 (pc' := 27) (L' := ([some (.ref 79), some (.int x1), some (.int x2), some (.int x3), some (.int u0)], [])) (S' := [.int (-1)]) (h' := (jXt cx (jY f g n b l t), z)) rfl).trans ?_
    exact jev_fin rfl
  · refine (jev_blk 1 (pc' := 24) (L' := ([some (.ref 79), some (.int x1), some (.int x2), some (.int x3), some (.int u0)], [])) (S' := [.int x3]) (h' := (jXt cx (jY f g n b l t), z)) rfl).trans ?_
    exact jev_callb (nx := 25) (rest := []) rfl
set_option maxRecDepth 20000 in
theorem E_m_tried_9 {D : Nat}  {x1 : Int32} {x2 : Int32} {x3 : Int32} {d4 : Option Value} {u0 : Int32} {cx : jCX} {f : Nat → Int32} {g : Nat → Nat → Int32} {n : Nat → Nat → Int64} {b : Nat → Nat → Int32} {l : Nat → Int64} {t : List jE} {z : Nat × Nat × Nat × (Nat → Int32)}  : jev D 238 9 ([some (.ref 79), some (.int x1), some (.int x2), some (.int x3), d4], []) [.int u0] (jXt cx (jY f g n b l t), z) = K_m_tried_20 D x1 x2 x3 d4 u0 cx f g n b l t z := by
  exact jev_blk 1 rfl
set_option maxRecDepth 20000 in
theorem E_m_tried_25 {D : Nat}  {x1 : Int32} {x2 : Int32} {x3 : Int32} {d4 : Option Value} {u0 : Int32} {cx : jCX} {f : Nat → Int32} {g : Nat → Nat → Int32} {n : Nat → Nat → Int64} {b : Nat → Nat → Int32} {l : Nat → Int64} {t : List jE} {z : Nat × Nat × Nat × (Nat → Int32)}  : jev D 238 25 ([some (.ref 79), some (.int x1), some (.int x2), some (.int x3), d4], []) [.int u0] (jXt cx (jY f g n b l t), z) = if u0 = 0 then (some (.inl (some (.int (-1))), (jXt cx (jY f g n b l t), z))) else (jbO (K_m_copies D 1 0 cx (jup (jup f 19 (x1)) 20 (x2)) g n b l t z) (jk D 238 38 ([some (.ref 79), some (.int x1), some (.int x2), some (.int x3), d4], []) [])) := by
  refine (jev_blk 1 (pc' := if u0 = 0 then 26 else 28) (L' := ([some (.ref 79), some (.int x1), some (.int x2), some (.int x3), d4], [])) (S' := []) (h' := (jXt cx (jY f g n b l t), z)) rfl).trans (jev_ite.trans (jite_congr (fun _ => ?_) (fun _ => ?_)))
  · refine (jev_blk 1 (pc' := 27) (L' := ([some (.ref 79), some (.int x1), some (.int x2), some (.int x3), d4], [])) (S' := [.int (-1)]) (h' := (jXt cx (jY f g n b l t), z)) rfl).trans ?_
    exact jev_fin rfl
  · refine (jev_blk 9 (pc' := 37) (L' := ([some (.ref 79), some (.int x1), some (.int x2), some (.int x3), d4], [])) (S' := [.int 0, .int 1, .ref 79]) (h' := (jXt cx (jY (jup (jup f 19 (x1)) 20 (x2)) g n b l t), z)) rfl).trans ?_
    exact jev_callb (nx := 38) (rest := []) rfl
set_option maxRecDepth 20000 in
theorem E_m_tried_38 {D : Nat}  {d1 : Option Value} {d2 : Option Value} {x3 : Int32} {d4 : Option Value} {cx : jCX} {f : Nat → Int32} {g : Nat → Nat → Int32} {n : Nat → Nat → Int64} {b : Nat → Nat → Int32} {l : Nat → Int64} {t : List jE} {z : Nat × Nat × Nat × (Nat → Int32)}  : jev D 238 38 ([some (.ref 79), d1, d2, some (.int x3), d4], []) [] (jXt cx (jY f g n b l t), z) = jbO (K_m_runs D x3 cx f g n b l t z) (jk D 238 41 ([some (.ref 79), d1, d2, some (.int x3), d4], []) []) := by
  refine (jev_blk 2 (pc' := 40) (L' := ([some (.ref 79), d1, d2, some (.int x3), d4], [])) (S' := [.int x3, .ref 79]) (h' := (jXt cx (jY f g n b l t), z)) rfl).trans ?_
  exact jev_callb (nx := 41) (rest := []) rfl
set_option maxRecDepth 20000 in
theorem E_m_tried_41 {D : Nat}  {d1 : Option Value} {d2 : Option Value} {d3 : Option Value} {d4 : Option Value} {cx : jCX} {f : Nat → Int32} {g : Nat → Nat → Int32} {n : Nat → Nat → Int64} {b : Nat → Nat → Int32} {l : Nat → Int64} {t : List jE} {z : Nat × Nat × Nat × (Nat → Int32)}  : jev D 238 41 ([some (.ref 79), d1, d2, d3, d4], []) [] (jXt cx (jY f g n b l t), z) = some (.inl (some (.int ((g 16 1) - (g 16 0)))), (jXt cx (jY (jup (jup f 19 ((-1))) 20 ((-1))) g n b l t), z)) := by
  refine (jev_blk 15 (pc' := 56) (L' := ([some (.ref 79), d1, d2, d3, d4], [])) (S' := [.int ((g 16 1) - (g 16 0))]) (h' := (jXt cx (jY (jup (jup f 19 ((-1))) 20 ((-1))) g n b l t), z)) rfl).trans ?_
  exact jev_fin rfl
set_option maxRecDepth 20000 in
theorem E_m_undo {D : Nat}   {cx : jCX} {f : Nat → Int32} {g : Nat → Nat → Int32} {n : Nat → Nat → Int64} {b : Nat → Nat → Int32} {l : Nat → Int64} {t : List jE} {z : Nat × Nat × Nat × (Nat → Int32)}  : K_m_undo D cx f g n b l t z = if (f 18) = 0 then (some (.inl (some (.int (-1))), (jXt cx (jY (jup f 0 (0)) g n b l t), z))) else (jbO (K_m_copies D 0 (3 + ((f 18) - 1)) cx (jup (jup f 0 (0)) 18 (((f 18) - 1))) g n b l t z) (jk D 239 21 ([some (.ref 79)], []) [])) := by
  refine (jev_blk 6 (pc' := if (f 18) = 0 then 6 else 8) (L' := ([some (.ref 79)], [])) (S' := []) (h' := (jXt cx (jY (jup f 0 (0)) g n b l t), z)) rfl).trans (jev_ite.trans (jite_congr (fun _ => ?_) (fun _ => ?_)))
  · refine (jev_blk 1 (pc' := 7) (L' := ([some (.ref 79)], [])) (S' := [.int (-1)]) (h' := (jXt cx (jY (jup f 0 (0)) g n b l t), z)) rfl).trans ?_
    exact jev_fin rfl
  · refine (jev_blk 12 (pc' := 20) (L' := ([some (.ref 79)], [])) (S' := [.int (3 + ((f 18) - 1)), .int 0, .ref 79]) (h' := (jXt cx (jY (jup (jup f 0 (0)) 18 (((f 18) - 1))) g n b l t), z)) rfl).trans ?_
    exact jev_callb (nx := 21) (rest := []) rfl
set_option maxRecDepth 20000 in
theorem E_m_undo_21 {D : Nat}   {cx : jCX} {f : Nat → Int32} {g : Nat → Nat → Int32} {n : Nat → Nat → Int64} {b : Nat → Nat → Int32} {l : Nat → Int64} {t : List jE} {z : Nat × Nat × Nat × (Nat → Int32)}  : jev D 239 21 ([some (.ref 79)], []) [] (jXt cx (jY f g n b l t), z) = some (.inl (some (.int (f 18))), (jXt cx (jY f g n b l t), z)) := by
  refine (jev_blk 2 (pc' := 23) (L' := ([some (.ref 79)], [])) (S' := [.int (f 18)]) (h' := (jXt cx (jY f g n b l t), z)) rfl).trans ?_
  exact jev_fin rfl
set_option maxRecDepth 20000 in
theorem E_m_keep {D : Nat}   {cx : jCX} {f : Nat → Int32} {g : Nat → Nat → Int32} {n : Nat → Nat → Int64} {b : Nat → Nat → Int32} {l : Nat → Int64} {t : List jE} {z : Nat × Nat × Nat × (Nat → Int32)}  : K_m_keep D cx f g n b l t z = jbO (K_m_copies D 2 0 cx (jup f 0 (0)) g n b l t z) (jk D 240 7 ([some (.ref 79)], []) []) := by
  refine (jev_blk 6 (pc' := 6) (L' := ([some (.ref 79)], [])) (S' := [.int 0, .int 2, .ref 79]) (h' := (jXt cx (jY (jup f 0 (0)) g n b l t), z)) rfl).trans ?_
  exact jev_callb (nx := 7) (rest := []) rfl
set_option maxRecDepth 20000 in
theorem E_m_keep_7 {D : Nat}   {cx : jCX} {f : Nat → Int32} {g : Nat → Nat → Int32} {n : Nat → Nat → Int64} {b : Nat → Nat → Int32} {l : Nat → Int64} {t : List jE} {z : Nat × Nat × Nat × (Nat → Int32)}  : jev D 240 7 ([some (.ref 79)], []) [] (jXt cx (jY f g n b l t), z) = some (.inl (some (.int (g 14 0))), (jXt cx (jY (jup f 17 (1)) g n b l t), z)) := by
  refine (jev_blk 7 (pc' := 14) (L' := ([some (.ref 79)], [])) (S' := [.int (g 14 0)]) (h' := (jXt cx (jY (jup f 17 (1)) g n b l t), z)) rfl).trans ?_
  exact jev_fin rfl
set_option maxRecDepth 20000 in
theorem E_m_back {D : Nat}   {cx : jCX} {f : Nat → Int32} {g : Nat → Nat → Int32} {n : Nat → Nat → Int64} {b : Nat → Nat → Int32} {l : Nat → Int64} {t : List jE} {z : Nat × Nat × Nat × (Nat → Int32)}  : K_m_back D cx f g n b l t z = if (f 17) = 0 then (some (.inl (some (.int (-1))), (jXt cx (jY (jup f 0 (0)) g n b l t), z))) else (jbO (K_m_copies D 0 2 cx (jup f 0 (0)) g n b l t z) (jk D 241 12 ([some (.ref 79)], []) [])) := by
  refine (jev_blk 6 (pc' := if (f 17) = 0 then 6 else 8) (L' := ([some (.ref 79)], [])) (S' := []) (h' := (jXt cx (jY (jup f 0 (0)) g n b l t), z)) rfl).trans (jev_ite.trans (jite_congr (fun _ => ?_) (fun _ => ?_)))
  · refine (jev_blk 1 (pc' := 7) (L' := ([some (.ref 79)], [])) (S' := [.int (-1)]) (h' := (jXt cx (jY (jup f 0 (0)) g n b l t), z)) rfl).trans ?_
    exact jev_fin rfl
  · refine (jev_blk 3 (pc' := 11) (L' := ([some (.ref 79)], [])) (S' := [.int 2, .int 0, .ref 79]) (h' := (jXt cx (jY (jup f 0 (0)) g n b l t), z)) rfl).trans ?_
    exact jev_callb (nx := 12) (rest := []) rfl
set_option maxRecDepth 20000 in
theorem E_m_back_12 {D : Nat}   {cx : jCX} {f : Nat → Int32} {g : Nat → Nat → Int32} {n : Nat → Nat → Int64} {b : Nat → Nat → Int32} {l : Nat → Int64} {t : List jE} {z : Nat × Nat × Nat × (Nat → Int32)}  : jev D 241 12 ([some (.ref 79)], []) [] (jXt cx (jY f g n b l t), z) = some (.inl (some (.int (g 14 0))), (jXt cx (jY (jup f 18 (0)) g n b l t), z)) := by
  refine (jev_blk 7 (pc' := 19) (L' := ([some (.ref 79)], [])) (S' := [.int (g 14 0)]) (h' := (jXt cx (jY (jup f 18 (0)) g n b l t), z)) rfl).trans ?_
  exact jev_fin rfl
set_option maxRecDepth 20000 in
theorem E_m_count {D : Nat}  {a0 : Int32} {cx : jCX} {f : Nat → Int32} {g : Nat → Nat → Int32} {n : Nat → Nat → Int64} {b : Nat → Nat → Int32} {l : Nat → Int64} {t : List jE} {z : Nat × Nat × Nat × (Nat → Int32)}  : K_m_count D a0 cx f g n b l t z = if a0 = 0 then (some (.inl (some (.int (g 1 0))), (jXt cx (jY (jup f 0 (0)) g n b l t), z))) else (if a0 = 1 then (some (.inl (some (.int (g 1 1))), (jXt cx (jY (jup f 0 (0)) g n b l t), z))) else (if a0 = 2 then (some (.inl (some (.int (g 1 2))), (jXt cx (jY (jup f 0 (0)) g n b l t), z))) else (if a0 = 3 then (some (.inl (some (.int (g 1 3))), (jXt cx (jY (jup f 0 (0)) g n b l t), z))) else (if a0 = 4 then (some (.inl (some (.int (g 1 6))), (jXt cx (jY (jup f 0 (0)) g n b l t), z))) else (if a0 = 5 then (some (.inl (some (.int (g 1 9))), (jXt cx (jY (jup f 0 (0)) g n b l t), z))) else (if a0 = 6 then (some (.inl (some (.int (g 15 0))), (jXt cx (jY (jup f 0 (0)) g n b l t), z))) else (if a0 = 7 then (some (.inl (some (.int (g 14 0))), (jXt cx (jY (jup f 0 (0)) g n b l t), z))) else (if a0 = 8 then (K_m_count_49 D (some (.int a0)) 0 0 cx (jup f 0 (0)) g n b l t z) else (if a0 = 9 then (some (.inl (some (.int (g 16 0))), (jXt cx (jY (jup f 0 (0)) g n b l t), z))) else (if a0 = 10 then (some (.inl (some (.int (g 17 0))), (jXt cx (jY (jup f 0 (0)) g n b l t), z))) else (if a0 = 11 then (some (.inl (some (.int (g 18 0))), (jXt cx (jY (jup f 0 (0)) g n b l t), z))) else (if a0 = 12 then (jbO (K_m_bitsOf D (g 19 0) cx (jup f 0 (0)) g n b l t z) (jk D 242 84 ([some (.ref 79), some (.int a0), some (.int 0), none], []) [])) else (if a0 = 13 then (some (.inl (some (.int (f 23))), (jXt cx (jY (jup f 0 (0)) g n b l t), z))) else (if a0 = 14 then (jbO (K_m_knownMany D cx (jup f 0 (0)) g n b l t z) (jk D 242 90 ([some (.ref 79), some (.int a0), some (.int 0), none], []) [])) else (if a0 = 15 then (some (.inl (some (.int (f 18))), (jXt cx (jY (jup f 0 (0)) g n b l t), z))) else (some (.inl (some (.int (-1))), (jXt cx (jY (jup f 0 (0)) g n b l t), z)))))))))))))))))) := by
  refine (jev_blk 7 (pc' := if a0 = 0 then 7 else if a0 = 1 then 12 else if a0 = 2 then 17 else if a0 = 3 then 22 else if a0 = 4 then 27 else if a0 = 5 then 32 else if a0 = 6 then 37 else if a0 = 7 then 42 else if a0 = 8 then 47 else if a0 = 9 then 64 else if a0 = 10 then 69 else if a0 = 11 then 74 else if a0 = 12 then 79 else if a0 = 13 then 85 else if a0 = 14 then 88 else if a0 = 15 then 91 else 94) (L' := ([some (.ref 79), some (.int a0), some (.int 0), none], [])) (S' := []) (h' := (jXt cx (jY (jup f 0 (0)) g n b l t), z)) rfl).trans ?_
  refine jev_ite.trans (jite_congr (fun _ => ?_) (fun _ => ?_))
  · refine (jev_blk 4 (pc' := 11) (L' := ([some (.ref 79), some (.int a0), some (.int 0), none], [])) (S' := [.int (g 1 0)]) (h' := (jXt cx (jY (jup f 0 (0)) g n b l t), z)) rfl).trans ?_
    exact jev_fin rfl
  · refine jev_ite.trans (jite_congr (fun _ => ?_) (fun _ => ?_))
    · refine (jev_blk 4 (pc' := 16) (L' := ([some (.ref 79), some (.int a0), some (.int 0), none], [])) (S' := [.int (g 1 1)]) (h' := (jXt cx (jY (jup f 0 (0)) g n b l t), z)) rfl).trans ?_
      exact jev_fin rfl
    · refine jev_ite.trans (jite_congr (fun _ => ?_) (fun _ => ?_))
      · refine (jev_blk 4 (pc' := 21) (L' := ([some (.ref 79), some (.int a0), some (.int 0), none], [])) (S' := [.int (g 1 2)]) (h' := (jXt cx (jY (jup f 0 (0)) g n b l t), z)) rfl).trans ?_
        exact jev_fin rfl
      · refine jev_ite.trans (jite_congr (fun _ => ?_) (fun _ => ?_))
        · refine (jev_blk 4 (pc' := 26) (L' := ([some (.ref 79), some (.int a0), some (.int 0), none], [])) (S' := [.int (g 1 3)]) (h' := (jXt cx (jY (jup f 0 (0)) g n b l t), z)) rfl).trans ?_
          exact jev_fin rfl
        · refine jev_ite.trans (jite_congr (fun _ => ?_) (fun _ => ?_))
          · refine (jev_blk 4 (pc' := 31) (L' := ([some (.ref 79), some (.int a0), some (.int 0), none], [])) (S' := [.int (g 1 6)]) (h' := (jXt cx (jY (jup f 0 (0)) g n b l t), z)) rfl).trans ?_
            exact jev_fin rfl
          · refine jev_ite.trans (jite_congr (fun _ => ?_) (fun _ => ?_))
            · refine (jev_blk 4 (pc' := 36) (L' := ([some (.ref 79), some (.int a0), some (.int 0), none], [])) (S' := [.int (g 1 9)]) (h' := (jXt cx (jY (jup f 0 (0)) g n b l t), z)) rfl).trans ?_
              exact jev_fin rfl
            · refine jev_ite.trans (jite_congr (fun _ => ?_) (fun _ => ?_))
              · refine (jev_blk 4 (pc' := 41) (L' := ([some (.ref 79), some (.int a0), some (.int 0), none], [])) (S' := [.int (g 15 0)]) (h' := (jXt cx (jY (jup f 0 (0)) g n b l t), z)) rfl).trans ?_
                exact jev_fin rfl
              · refine jev_ite.trans (jite_congr (fun _ => ?_) (fun _ => ?_))
                · refine (jev_blk 4 (pc' := 46) (L' := ([some (.ref 79), some (.int a0), some (.int 0), none], [])) (S' := [.int (g 14 0)]) (h' := (jXt cx (jY (jup f 0 (0)) g n b l t), z)) rfl).trans ?_
                  exact jev_fin rfl
                · refine jev_ite.trans (jite_congr (fun _ => ?_) (fun _ => ?_))
                  · exact jev_blk 2 rfl
                  · refine jev_ite.trans (jite_congr (fun _ => ?_) (fun _ => ?_))
                    · refine (jev_blk 4 (pc' := 68) (L' := ([some (.ref 79), some (.int a0), some (.int 0), none], [])) (S' := [.int (g 16 0)]) (h' := (jXt cx (jY (jup f 0 (0)) g n b l t), z)) rfl).trans ?_
                      exact jev_fin rfl
                    · refine jev_ite.trans (jite_congr (fun _ => ?_) (fun _ => ?_))
                      · refine (jev_blk 4 (pc' := 73) (L' := ([some (.ref 79), some (.int a0), some (.int 0), none], [])) (S' := [.int (g 17 0)]) (h' := (jXt cx (jY (jup f 0 (0)) g n b l t), z)) rfl).trans ?_
                        exact jev_fin rfl
                      · refine jev_ite.trans (jite_congr (fun _ => ?_) (fun _ => ?_))
                        · refine (jev_blk 4 (pc' := 78) (L' := ([some (.ref 79), some (.int a0), some (.int 0), none], [])) (S' := [.int (g 18 0)]) (h' := (jXt cx (jY (jup f 0 (0)) g n b l t), z)) rfl).trans ?_
                          exact jev_fin rfl
                        · refine jev_ite.trans (jite_congr (fun _ => ?_) (fun _ => ?_))
                          · refine (jev_blk 4 (pc' := 83) (L' := ([some (.ref 79), some (.int a0), some (.int 0), none], [])) (S' := [.int (g 19 0)]) (h' := (jXt cx (jY (jup f 0 (0)) g n b l t), z)) rfl).trans ?_
                            exact jev_callb (nx := 84) (rest := []) rfl
                          · refine jev_ite.trans (jite_congr (fun _ => ?_) (fun _ => ?_))
                            · refine (jev_blk 2 (pc' := 87) (L' := ([some (.ref 79), some (.int a0), some (.int 0), none], [])) (S' := [.int (f 23)]) (h' := (jXt cx (jY (jup f 0 (0)) g n b l t), z)) rfl).trans ?_
                              exact jev_fin rfl
                            · refine jev_ite.trans (jite_congr (fun _ => ?_) (fun _ => ?_))
                              · refine (jev_blk 1 (pc' := 89) (L' := ([some (.ref 79), some (.int a0), some (.int 0), none], [])) (S' := [.ref 79]) (h' := (jXt cx (jY (jup f 0 (0)) g n b l t), z)) rfl).trans ?_
                                exact jev_callb (nx := 90) (rest := []) rfl
                              · refine jev_ite.trans (jite_congr (fun _ => ?_) (fun _ => ?_))
                                · refine (jev_blk 2 (pc' := 93) (L' := ([some (.ref 79), some (.int a0), some (.int 0), none], [])) (S' := [.int (f 18)]) (h' := (jXt cx (jY (jup f 0 (0)) g n b l t), z)) rfl).trans ?_
                                  exact jev_fin rfl
                                · refine (jev_blk 1 (pc' := 95) (L' := ([some (.ref 79), some (.int a0), some (.int 0), none], [])) (S' := [.int (-1)]) (h' := (jXt cx (jY (jup f 0 (0)) g n b l t), z)) rfl).trans ?_
                                  exact jev_fin rfl
set_option maxRecDepth 20000 in
theorem L_m_count_49 {D : Nat}  {d1 : Option Value} {x2 : Int32} {x3 : Int32} {cx : jCX} {f : Nat → Int32} {g : Nat → Nat → Int32} {n : Nat → Nat → Int64} {b : Nat → Nat → Int32} {l : Nat → Int64} {t : List jE} {z : Nat × Nat × Nat × (Nat → Int32)}  : K_m_count_49 D d1 x2 x3 cx f g n b l t z = jbO (K_m_cells D cx f g n b l t z) (jk D 242 52 ([some (.ref 79), d1, some (.int x2), some (.int x3)], []) [.int x3]) := by
  refine (jev_blk 2 (pc' := 51) (L' := ([some (.ref 79), d1, some (.int x2), some (.int x3)], [])) (S' := [.ref 79, .int x3]) (h' := (jXt cx (jY f g n b l t), z)) rfl).trans ?_
  exact jev_callb (nx := 52) (rest := [.int x3]) rfl
set_option maxRecDepth 20000 in
theorem E_m_count_84 {D : Nat}  {d1 : Option Value} {d2 : Option Value} {d3 : Option Value} {u0 : Int32} {cx : jCX} {f : Nat → Int32} {g : Nat → Nat → Int32} {n : Nat → Nat → Int64} {b : Nat → Nat → Int32} {l : Nat → Int64} {t : List jE} {z : Nat × Nat × Nat × (Nat → Int32)}  : jev D 242 84 ([some (.ref 79), d1, d2, d3], []) [.int u0] (jXt cx (jY f g n b l t), z) = some (.inl (some (.int u0)), (jXt cx (jY f g n b l t), z)) := by
  exact jev_fin rfl
set_option maxRecDepth 20000 in
theorem E_m_count_90 {D : Nat}  {d1 : Option Value} {d2 : Option Value} {d3 : Option Value} {u0 : Int32} {cx : jCX} {f : Nat → Int32} {g : Nat → Nat → Int32} {n : Nat → Nat → Int64} {b : Nat → Nat → Int32} {l : Nat → Int64} {t : List jE} {z : Nat × Nat × Nat × (Nat → Int32)}  : jev D 242 90 ([some (.ref 79), d1, d2, d3], []) [.int u0] (jXt cx (jY f g n b l t), z) = some (.inl (some (.int u0)), (jXt cx (jY f g n b l t), z)) := by
  exact jev_fin rfl
set_option maxRecDepth 20000 in
theorem E_m_count_52 {D : Nat}  {d1 : Option Value} {x2 : Int32} {x3 : Int32} {u0 : Int32} {u1 : Int32} {cx : jCX} {f : Nat → Int32} {g : Nat → Nat → Int32} {n : Nat → Nat → Int64} {b : Nat → Nat → Int32} {l : Nat → Int64} {t : List jE} {z : Nat × Nat × Nat × (Nat → Int32)}  : jev D 242 52 ([some (.ref 79), d1, some (.int x2), some (.int x3)], []) [.int u0, .int u1] (jXt cx (jY f g n b l t), z) = if u1 < u0 then (if jout x3 690 then none else (K_m_count_49 D d1 (x2 + (g 20 x3.toNatClampNeg)) (x3 + 1) cx f g n b l t z)) else (some (.inl (some (.int x2)), (jXt cx (jY f g n b l t), z))) := by
  refine (jev_blk 1 (pc' := if u1 < u0 then 53 else 62) (L' := ([some (.ref 79), d1, some (.int x2), some (.int x3)], [])) (S' := []) (h' := (jXt cx (jY f g n b l t), z)) rfl).trans (jev_ite.trans (jite_congr (fun _ => ?_) (fun _ => ?_)))
  · refine (jev_blk 4 (pc' := 57) (L' := ([some (.ref 79), d1, some (.int x2), some (.int x3)], [])) (S' := [.int x3, .ref 102, .int x2]) (h' := (jXt cx (jY f g n b l t), z)) rfl).trans ?_
    refine (jev_grd (q := jout x3 690) (pc' := 58) (L' := ([some (.ref 79), d1, some (.int x2), some (.int x3)], [])) (S' := [.int (g 20 x3.toNatClampNeg), .int x2]) (h' := (jXt cx (jY f g n b l t), z)) rfl).trans (jite_congr (fun _ => rfl) (fun _ => ?_))
    exact jev_blk 4 rfl
  · refine (jev_blk 1 (pc' := 63) (L' := ([some (.ref 79), d1, some (.int x2), some (.int x3)], [])) (S' := [.int x2]) (h' := (jXt cx (jY f g n b l t), z)) rfl).trans ?_
    exact jev_fin rfl
