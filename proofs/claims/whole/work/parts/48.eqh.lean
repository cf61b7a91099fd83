-- EQUATIONS: one a block; E_ unfolds, L_ a loop's head
set_option maxRecDepth 20000 in
theorem E_m_law_11 {D : Nat}  {x1 : Int32} {x2 : Int32} {x3 : Int32} {u0 : Int32} {cx : jCX} {f : Nat → Int32} {g : Nat → Nat → Int32} {n : Nat → Nat → Int64} {b : Nat → Nat → Int32} {l : Nat → Int64} {t : List jE} {z : Nat × Nat × Nat × (Nat → Int32)}  : jev D 206 11 ([some (.ref 79), some (.int x1), some (.int x2), some (.int x3)], []) [.int u0] (jXt cx (jY f g n b l t), z) = if u0 = 0 then (some (.inl (some (.long (-9223372036854775808))), (jXt cx (jY f g n b l t), z))) else (if x1 = 1 then (K_m_law_21 D x1 x2 x3 cx f g n b l t z) else (jbO (K_m_isScare D x2 cx f g n b l t z) (jk D 206 20 ([some (.ref 79), some (.int x1), some (.int x2), some (.int x3)], []) []))) := by
  refine (jev_blk 1 (pc' := if u0 = 0 then 12 else 14) (L' := ([some (.ref 79), some (.int x1), some (.int x2), some (.int x3)], [])) (S' := []) (h' := (jXt cx (jY f g n b l t), z)) rfl).trans (jev_ite.trans (jite_congr (fun _ => ?_) (fun _ => ?_)))
  · refine (jev_blk 1 (pc' := 13) (L' := ([some (.ref 79), some (.int x1), some (.int x2), some (.int x3)], [])) (S' := [.long (-9223372036854775808)]) (h' := (jXt cx (jY f g n b l t), z)) rfl).trans ?_
    exact jev_fin rfl
  · refine (jev_blk 3 (pc' := if x1 = 1 then 21 else 17) (L' := ([some (.ref 79), some (.int x1), some (.int x2), some (.int x3)], [])) (S' := []) (h' := (jXt cx (jY f g n b l t), z)) rfl).trans (jev_ite.trans (jite_congr (fun _ => ?_) (fun _ => ?_)))
    · rfl
    · refine (jev_blk 2 (pc' := 19) (L' := ([some (.ref 79), some (.int x1), some (.int x2), some (.int x3)], [])) (S' := [.int x2, .ref 79]) (h' := (jXt cx (jY f g n b l t), z)) rfl).trans ?_
      exact jev_callb (nx := 20) (rest := []) rfl
set_option maxRecDepth 20000 in
theorem E_m_law_21 {D : Nat}  {x1 : Int32} {x2 : Int32} {x3 : Int32} {cx : jCX} {f : Nat → Int32} {g : Nat → Nat → Int32} {n : Nat → Nat → Int64} {b : Nat → Nat → Int32} {l : Nat → Int64} {t : List jE} {z : Nat × Nat × Nat × (Nat → Int32)}  : K_m_law_21 D x1 x2 x3 cx f g n b l t z = if x1 = 2 then (K_m_law_30 D x1 x2 x3 cx f g n b l t z) else (jbO (K_m_isCell D x3 cx f g n b l t z) (jk D 206 27 ([some (.ref 79), some (.int x1), some (.int x2), some (.int x3)], []) [])) := by
  refine (jev_blk 3 (pc' := if x1 = 2 then 30 else 24) (L' := ([some (.ref 79), some (.int x1), some (.int x2), some (.int x3)], [])) (S' := []) (h' := (jXt cx (jY f g n b l t), z)) rfl).trans (jev_ite.trans (jite_congr (fun _ => ?_) (fun _ => ?_)))
  · rfl
  · refine (jev_blk 2 (pc' := 26) (L' := ([some (.ref 79), some (.int x1), some (.int x2), some (.int x3)], [])) (S' := [.int x3, .ref 79]) (h' := (jXt cx (jY f g n b l t), z)) rfl).trans ?_
    exact jev_callb (nx := 27) (rest := []) rfl
set_option maxRecDepth 20000 in
theorem E_m_law_30 {D : Nat}  {x1 : Int32} {x2 : Int32} {x3 : Int32} {cx : jCX} {f : Nat → Int32} {g : Nat → Nat → Int32} {n : Nat → Nat → Int64} {b : Nat → Nat → Int32} {l : Nat → Int64} {t : List jE} {z : Nat × Nat × Nat × (Nat → Int32)}  : K_m_law_30 D x1 x2 x3 cx f g n b l t z = if x1 = 0 then (if jout x2 12 then none else (if jout x2 12 then none else (jbO (K_m_farOf D (g 4 x2.toNatClampNeg) x3 cx f g n b l t z) (jk D 206 45 ([some (.ref 79), some (.int x1), some (.int x2), some (.int x3)], []) [.int (g 5 x2.toNatClampNeg), .int 0, .ref 79])))) else (if x1 = 1 then (if jout x3 690 then none else (jbO (K_m_calls D 0 0 0 0 (g 20 x3.toNatClampNeg) cx f g n b l t z) (jk D 206 68 ([some (.ref 79), some (.int x1), some (.int x2), some (.int x3)], []) []))) else (if jout x2 12 then none else (if jout x2 138 then none else (jbO (K_m_calls D 0 (g 5 x2.toNatClampNeg) 0 (g 24 x2.toNatClampNeg) 0 cx f g n b l t z) (jk D 206 82 ([some (.ref 79), some (.int x1), some (.int x2), some (.int x3)], []) []))))) := by
  refine (jev_blk 2 (pc' := if x1 = 0 then 32 else 55) (L' := ([some (.ref 79), some (.int x1), some (.int x2), some (.int x3)], [])) (S' := []) (h' := (jXt cx (jY f g n b l t), z)) rfl).trans (jev_ite.trans (jite_congr (fun _ => ?_) (fun _ => ?_)))
  · refine (jev_blk 5 (pc' := 37) (L' := ([some (.ref 79), some (.int x1), some (.int x2), some (.int x3)], [])) (S' := [.int x2, .ref 85, .int 0, .ref 79]) (h' := (jXt cx (jY f g n b l t), z)) rfl).trans ?_
    refine (jev_grd (q := jout x2 12) (pc' := 38) (L' := ([some (.ref 79), some (.int x1), some (.int x2), some (.int x3)], [])) (S' := [.int (g 5 x2.toNatClampNeg), .int 0, .ref 79]) (h' := (jXt cx (jY f g n b l t), z)) rfl).trans (jite_congr (fun _ => rfl) (fun _ => ?_))
    refine (jev_blk 4 (pc' := 42) (L' := ([some (.ref 79), some (.int x1), some (.int x2), some (.int x3)], [])) (S' := [.int x2, .ref 84, .ref 79, .int (g 5 x2.toNatClampNeg), .int 0, .ref 79]) (h' := (jXt cx (jY f g n b l t), z)) rfl).trans ?_
    refine (jev_grd (q := jout x2 12) (pc' := 43) (L' := ([some (.ref 79), some (.int x1), some (.int x2), some (.int x3)], [])) (S' := [.int (g 4 x2.toNatClampNeg), .ref 79, .int (g 5 x2.toNatClampNeg), .int 0, .ref 79]) (h' := (jXt cx (jY f g n b l t), z)) rfl).trans (jite_congr (fun _ => rfl) (fun _ => ?_))
    refine (jev_blk 1 (pc' := 44) (L' := ([some (.ref 79), some (.int x1), some (.int x2), some (.int x3)], [])) (S' := [.int x3, .int (g 4 x2.toNatClampNeg), .ref 79, .int (g 5 x2.toNatClampNeg), .int 0, .ref 79]) (h' := (jXt cx (jY f g n b l t), z)) rfl).trans ?_
    exact jev_callb (nx := 45) (rest := [.int (g 5 x2.toNatClampNeg), .int 0, .ref 79]) rfl
  · refine (jev_blk 3 (pc' := if x1 = 1 then 58 else 69) (L' := ([some (.ref 79), some (.int x1), some (.int x2), some (.int x3)], [])) (S' := []) (h' := (jXt cx (jY f g n b l t), z)) rfl).trans (jev_ite.trans (jite_congr (fun _ => ?_) (fun _ => ?_)))
    · refine (jev_blk 8 (pc' := 66) (L' := ([some (.ref 79), some (.int x1), some (.int x2), some (.int x3)], [])) (S' := [.int x3, .ref 102, .int 0, .int 0, .int 0, .int 0, .ref 79]) (h' := (jXt cx (jY f g n b l t), z)) rfl).trans ?_
      refine (jev_grd (q := jout x3 690) (pc' := 67) (L' := ([some (.ref 79), some (.int x1), some (.int x2), some (.int x3)], [])) (S' := [.int (g 20 x3.toNatClampNeg), .int 0, .int 0, .int 0, .int 0, .ref 79]) (h' := (jXt cx (jY f g n b l t), z)) rfl).trans (jite_congr (fun _ => rfl) (fun _ => ?_))
      exact jev_callb (nx := 68) (rest := []) rfl
    · refine (jev_blk 5 (pc' := 74) (L' := ([some (.ref 79), some (.int x1), some (.int x2), some (.int x3)], [])) (S' := [.int x2, .ref 85, .int 0, .ref 79]) (h' := (jXt cx (jY f g n b l t), z)) rfl).trans ?_
      refine (jev_grd (q := jout x2 12) (pc' := 75) (L' := ([some (.ref 79), some (.int x1), some (.int x2), some (.int x3)], [])) (S' := [.int (g 5 x2.toNatClampNeg), .int 0, .ref 79]) (h' := (jXt cx (jY f g n b l t), z)) rfl).trans (jite_congr (fun _ => rfl) (fun _ => ?_))
      refine (jev_blk 4 (pc' := 79) (L' := ([some (.ref 79), some (.int x1), some (.int x2), some (.int x3)], [])) (S' := [.int x2, .ref 106, .int 0, .int (g 5 x2.toNatClampNeg), .int 0, .ref 79]) (h' := (jXt cx (jY f g n b l t), z)) rfl).trans ?_
      refine (jev_grd (q := jout x2 138) (pc' := 80) (L' := ([some (.ref 79), some (.int x1), some (.int x2), some (.int x3)], [])) (S' := [.int (g 24 x2.toNatClampNeg), .int 0, .int (g 5 x2.toNatClampNeg), .int 0, .ref 79]) (h' := (jXt cx (jY f g n b l t), z)) rfl).trans (jite_congr (fun _ => rfl) (fun _ => ?_))
      refine (jev_blk 1 (pc' := 81) (L' := ([some (.ref 79), some (.int x1), some (.int x2), some (.int x3)], [])) (S' := [.int 0, .int (g 24 x2.toNatClampNeg), .int 0, .int (g 5 x2.toNatClampNeg), .int 0, .ref 79]) (h' := (jXt cx (jY f g n b l t), z)) rfl).trans ?_
      exact jev_callb (nx := 82) (rest := []) rfl
set_option maxRecDepth 20000 in
theorem E_m_law_20 {D : Nat}  {x1 : Int32} {x2 : Int32} {x3 : Int32} {u0 : Int32} {cx : jCX} {f : Nat → Int32} {g : Nat → Nat → Int32} {n : Nat → Nat → Int64} {b : Nat → Nat → Int32} {l : Nat → Int64} {t : List jE} {z : Nat × Nat × Nat × (Nat → Int32)}  : jev D 206 20 ([some (.ref 79), some (.int x1), some (.int x2), some (.int x3)], []) [.int u0] (jXt cx (jY f g n b l t), z) = if u0 = 0 then (some (.inl (some (.long (-9223372036854775808))), (jXt cx (jY f g n b l t), z))) else (K_m_law_21 D x1 x2 x3 cx f g n b l t z) := by
  refine (jev_blk 1 (pc' := if u0 = 0 then 28 else 21) (L' := ([some (.ref 79), some (.int x1), some (.int x2), some (.int x3)], [])) (S' := []) (h' := (jXt cx (jY f g n b l t), z)) rfl).trans (jev_ite.trans (jite_congr (fun _ => ?_) (fun _ => ?_)))
  · refine (jev_blk 1 (pc' := 29) (L' := ([some (.ref 79), some (.int x1), some (.int x2), some (.int x3)], [])) (S' := [.long (-9223372036854775808)]) (h' := (jXt cx (jY f g n b l t), z)) rfl).trans ?_
    exact jev_fin rfl
  · rfl
set_option maxRecDepth 20000 in
theorem E_m_law_27 {D : Nat}  {x1 : Int32} {x2 : Int32} {x3 : Int32} {u0 : Int32} {cx : jCX} {f : Nat → Int32} {g : Nat → Nat → Int32} {n : Nat → Nat → Int64} {b : Nat → Nat → Int32} {l : Nat → Int64} {t : List jE} {z : Nat × Nat × Nat × (Nat → Int32)}  : jev D 206 27 ([some (.ref 79), some (.int x1), some (.int x2), some (.int x3)], []) [.int u0] (jXt cx (jY f g n b l t), z) = if u0 = 0 then (some (.inl (some (.long (-9223372036854775808))), (jXt cx (jY f g n b l t), z))) else (K_m_law_30 D x1 x2 x3 cx f g n b l t z) := by
  refine (jev_blk 1 (pc' := if u0 = 0 then 28 else 30) (L' := ([some (.ref 79), some (.int x1), some (.int x2), some (.int x3)], [])) (S' := []) (h' := (jXt cx (jY f g n b l t), z)) rfl).trans (jev_ite.trans (jite_congr (fun _ => ?_) (fun _ => ?_)))
  · refine (jev_blk 1 (pc' := 29) (L' := ([some (.ref 79), some (.int x1), some (.int x2), some (.int x3)], [])) (S' := [.long (-9223372036854775808)]) (h' := (jXt cx (jY f g n b l t), z)) rfl).trans ?_
    exact jev_fin rfl
  · rfl
set_option maxRecDepth 20000 in
theorem E_m_law_45 {D : Nat}  {x1 : Int32} {x2 : Int32} {x3 : Int32} {u0 : Int32} {u1 : Int32} {u2 : Int32} {cx : jCX} {f : Nat → Int32} {g : Nat → Nat → Int32} {n : Nat → Nat → Int64} {b : Nat → Nat → Int32} {l : Nat → Int64} {t : List jE} {z : Nat × Nat × Nat × (Nat → Int32)}  : jev D 206 45 ([some (.ref 79), some (.int x1), some (.int x2), some (.int x3)], []) [.int u0, .int u1, .int u2, .ref 79] (jXt cx (jY f g n b l t), z) = if jout x2 138 then none else (if jout x3 690 then none else (jbO (K_m_calls D u2 u1 u0 (g 24 x2.toNatClampNeg) (g 20 x3.toNatClampNeg) cx f g n b l t z) (jk D 206 54 ([some (.ref 79), some (.int x1), some (.int x2), some (.int x3)], []) []))) := by
  refine (jev_blk 3 (pc' := 48) (L' := ([some (.ref 79), some (.int x1), some (.int x2), some (.int x3)], [])) (S' := [.int x2, .ref 106, .int u0, .int u1, .int u2, .ref 79]) (h' := (jXt cx (jY f g n b l t), z)) rfl).trans ?_
  refine (jev_grd (q := jout x2 138) (pc' := 49) (L' := ([some (.ref 79), some (.int x1), some (.int x2), some (.int x3)], [])) (S' := [.int (g 24 x2.toNatClampNeg), .int u0, .int u1, .int u2, .ref 79]) (h' := (jXt cx (jY f g n b l t), z)) rfl).trans (jite_congr (fun _ => rfl) (fun _ => ?_))
  refine (jev_blk 3 (pc' := 52) (L' := ([some (.ref 79), some (.int x1), some (.int x2), some (.int x3)], [])) (S' := [.int x3, .ref 102, .int (g 24 x2.toNatClampNeg), .int u0, .int u1, .int u2, .ref 79]) (h' := (jXt cx (jY f g n b l t), z)) rfl).trans ?_
  refine (jev_grd (q := jout x3 690) (pc' := 53) (L' := ([some (.ref 79), some (.int x1), some (.int x2), some (.int x3)], [])) (S' := [.int (g 20 x3.toNatClampNeg), .int (g 24 x2.toNatClampNeg), .int u0, .int u1, .int u2, .ref 79]) (h' := (jXt cx (jY f g n b l t), z)) rfl).trans (jite_congr (fun _ => rfl) (fun _ => ?_))
  exact jev_callb (nx := 54) (rest := []) rfl
set_option maxRecDepth 20000 in
theorem E_m_law_68 {D : Nat}  {x1 : Int32} {d2 : Option Value} {d3 : Option Value} {cx : jCX} {f : Nat → Int32} {g : Nat → Nat → Int32} {n : Nat → Nat → Int64} {b : Nat → Nat → Int32} {l : Nat → Int64} {t : List jE} {z : Nat × Nat × Nat × (Nat → Int32)}  : jev D 206 68 ([some (.ref 79), some (.int x1), d2, d3], []) [] (jXt cx (jY f g n b l t), z) = K_m_law_82 D x1 d2 d3 cx f g n b l t z := by
  exact jev_blk 1 rfl
set_option maxRecDepth 20000 in
theorem E_m_law_82 {D : Nat}  {x1 : Int32} {d2 : Option Value} {d3 : Option Value} {cx : jCX} {f : Nat → Int32} {g : Nat → Nat → Int32} {n : Nat → Nat → Int64} {b : Nat → Nat → Int32} {l : Nat → Int64} {t : List jE} {z : Nat × Nat × Nat × (Nat → Int32)}  : K_m_law_82 D x1 d2 d3 cx f g n b l t z = jbO (K_m_goes D x1 cx f g n b l t z) (jk D 206 85 ([some (.ref 79), some (.int x1), d2, d3], []) []) := by
  refine (jev_blk 2 (pc' := 84) (L' := ([some (.ref 79), some (.int x1), d2, d3], [])) (S' := [.int x1, .ref 79]) (h' := (jXt cx (jY f g n b l t), z)) rfl).trans ?_
  exact jev_callb (nx := 85) (rest := []) rfl
theorem F_m_law_82 {D : Nat}  {x1 : Int32} {d2 : Option Value} {d3 : Option Value} {cx : jCX} {f : Nat → Int32} {g : Nat → Nat → Int32} {n : Nat → Nat → Int64} {b : Nat → Nat → Int32} {l : Nat → Int64} {t : List jE} {z : Nat × Nat × Nat × (Nat → Int32)} : jev D 206 82 ([some (.ref 79), some (.int x1), d2, d3], []) [] (jXt cx (jY f g n b l t), z) = K_m_law_82 D x1 d2 d3 cx f g n b l t z := rfl
set_option maxRecDepth 20000 in
theorem E_m_law_54 {D : Nat}  {x1 : Int32} {d2 : Option Value} {d3 : Option Value} {cx : jCX} {f : Nat → Int32} {g : Nat → Nat → Int32} {n : Nat → Nat → Int64} {b : Nat → Nat → Int32} {l : Nat → Int64} {t : List jE} {z : Nat × Nat × Nat × (Nat → Int32)}  : jev D 206 54 ([some (.ref 79), some (.int x1), d2, d3], []) [] (jXt cx (jY f g n b l t), z) = K_m_law_82 D x1 d2 d3 cx f g n b l t z := by
  exact jev_blk 1 rfl
set_option maxRecDepth 20000 in
theorem E_m_law_85 {D : Nat}  {d1 : Option Value} {d2 : Option Value} {d3 : Option Value} {u0 : Int32} {cx : jCX} {f : Nat → Int32} {g : Nat → Nat → Int32} {n : Nat → Nat → Int64} {b : Nat → Nat → Int32} {l : Nat → Int64} {t : List jE} {z : Nat × Nat × Nat × (Nat → Int32)}  : jev D 206 85 ([some (.ref 79), d1, d2, d3], []) [.int u0] (jXt cx (jY f g n b l t), z) = if u0 = 0 then (some (.inl (some (.long (-9223372036854775808))), (jXt cx (jY f g n b l t), z))) else (some (.inl (some (.long (n 1 0))), (jXt cx (jY f g n b l t), z))) := by
  refine (jev_blk 1 (pc' := if u0 = 0 then 91 else 86) (L' := ([some (.ref 79), d1, d2, d3], [])) (S' := []) (h' := (jXt cx (jY f g n b l t), z)) rfl).trans (jev_ite.trans (jite_congr (fun _ => ?_) (fun _ => ?_)))
  · refine (jev_blk 1 (pc' := 92) (L' := ([some (.ref 79), d1, d2, d3], [])) (S' := [.long (-9223372036854775808)]) (h' := (jXt cx (jY f g n b l t), z)) rfl).trans ?_
    exact jev_fin rfl
  · refine (jev_blk 5 (pc' := 92) (L' := ([some (.ref 79), d1, d2, d3], [])) (S' := [.long (n 1 0)]) (h' := (jXt cx (jY f g n b l t), z)) rfl).trans ?_
    exact jev_fin rfl
set_option maxRecDepth 20000 in
theorem E_m_keepNow {D : Nat}   {cx : jCX} {f : Nat → Int32} {g : Nat → Nat → Int32} {n : Nat → Nat → Int64} {b : Nat → Nat → Int32} {l : Nat → Int64} {t : List jE} {z : Nat × Nat × Nat × (Nat → Int32)}  : K_m_keepNow D cx f g n b l t z = if (f 18) = 20 then (K_m_keepNow_6 D 1 cx f g n b l t z) else (K_m_keepNow_27 D none cx f g n b l t z) := by
  refine (jev_blk 4 (pc' := if (f 18) = 20 then 4 else 27) (L' := ([some (.ref 79), none], [])) (S' := []) (h' := (jXt cx (jY f g n b l t), z)) rfl).trans (jev_ite.trans (jite_congr (fun _ => ?_) (fun _ => ?_)))
  · exact jev_blk 2 rfl
  · rfl
set_option maxRecDepth 20000 in
theorem L_m_keepNow_6 {D : Nat}  {x1 : Int32} {cx : jCX} {f : Nat → Int32} {g : Nat → Nat → Int32} {n : Nat → Nat → Int64} {b : Nat → Nat → Int32} {l : Nat → Int64} {t : List jE} {z : Nat × Nat × Nat × (Nat → Int32)}  : K_m_keepNow_6 D x1 cx f g n b l t z = if x1 < 20 then (jbO (K_m_copies D ((3 + x1) - 1) (3 + x1) cx f g n b l t z) (jk D 207 19 ([some (.ref 79), some (.int x1)], []) [])) else (K_m_keepNow_27 D (some (.int x1)) cx (jup f 18 (((f 18) - 1))) g n b l t z) := by
  refine (jev_blk 3 (pc' := if x1 < 20 then 9 else 21) (L' := ([some (.ref 79), some (.int x1)], [])) (S' := []) (h' := (jXt cx (jY f g n b l t), z)) rfl).trans (jev_ite.trans (jite_congr (fun _ => ?_) (fun _ => ?_)))
  · refine (jev_blk 9 (pc' := 18) (L' := ([some (.ref 79), some (.int x1)], [])) (S' := [.int (3 + x1), .int ((3 + x1) - 1), .ref 79]) (h' := (jXt cx (jY f g n b l t), z)) rfl).trans ?_
    exact jev_callb (nx := 19) (rest := []) rfl
  · exact jev_blk 6 rfl
set_option maxRecDepth 20000 in
theorem E_m_keepNow_27 {D : Nat}  {d1 : Option Value} {cx : jCX} {f : Nat → Int32} {g : Nat → Nat → Int32} {n : Nat → Nat → Int64} {b : Nat → Nat → Int32} {l : Nat → Int64} {t : List jE} {z : Nat × Nat × Nat × (Nat → Int32)}  : K_m_keepNow_27 D d1 cx f g n b l t z = jbO (K_m_copies D (3 + (f 18)) 0 cx f g n b l t z) (jk D 207 34 ([some (.ref 79), d1], []) []) := by
  refine (jev_blk 6 (pc' := 33) (L' := ([some (.ref 79), d1], [])) (S' := [.int 0, .int (3 + (f 18)), .ref 79]) (h' := (jXt cx (jY f g n b l t), z)) rfl).trans ?_
  exact jev_callb (nx := 34) (rest := []) rfl
set_option maxRecDepth 20000 in
theorem E_m_keepNow_19 {D : Nat}  {x1 : Int32} {cx : jCX} {f : Nat → Int32} {g : Nat → Nat → Int32} {n : Nat → Nat → Int64} {b : Nat → Nat → Int32} {l : Nat → Int64} {t : List jE} {z : Nat × Nat × Nat × (Nat → Int32)}  : jev D 207 19 ([some (.ref 79), some (.int x1)], []) [] (jXt cx (jY f g n b l t), z) = K_m_keepNow_6 D (x1 + 1) cx f g n b l t z := by
  exact jev_blk 2 rfl
set_option maxRecDepth 20000 in
theorem E_m_keepNow_34 {D : Nat}  {d1 : Option Value} {cx : jCX} {f : Nat → Int32} {g : Nat → Nat → Int32} {n : Nat → Nat → Int64} {b : Nat → Nat → Int32} {l : Nat → Int64} {t : List jE} {z : Nat × Nat × Nat × (Nat → Int32)}  : jev D 207 34 ([some (.ref 79), d1], []) [] (jXt cx (jY f g n b l t), z) = some (.inl (none), (jXt cx (jY (jup f 18 (((f 18) + 1))) g n b l t), z)) := by
  refine (jev_blk 6 (pc' := 40) (L' := ([some (.ref 79), d1], [])) (S' := []) (h' := (jXt cx (jY (jup f 18 (((f 18) + 1))) g n b l t), z)) rfl).trans ?_
  exact jev_fin rfl
set_option maxRecDepth 20000 in
theorem E_m_flap {D : Nat}  {a0 : Int32} {a1 : Int32} {a2 : Int32} {cx : jCX} {f : Nat → Int32} {g : Nat → Nat → Int32} {n : Nat → Nat → Int64} {b : Nat → Nat → Int32} {l : Nat → Int64} {t : List jE} {z : Nat × Nat × Nat × (Nat → Int32)}  : K_m_flap D a0 a1 a2 cx f g n b l t z = jbO (K_m_isScare D a0 cx (jup f 0 (0)) g n b l t z) (jk D 208 6 ([some (.ref 79), some (.int a0), some (.int a1), some (.int a2)], []) []) := by
  refine (jev_blk 5 (pc' := 5) (L' := ([some (.ref 79), some (.int a0), some (.int a1), some (.int a2)], [])) (S' := [.int a0, .ref 79]) (h' := (jXt cx (jY (jup f 0 (0)) g n b l t), z)) rfl).trans ?_
  exact jev_callb (nx := 6) (rest := []) rfl
set_option maxRecDepth 20000 in
theorem E_m_flap_6 {D : Nat}  {x1 : Int32} {x2 : Int32} {x3 : Int32} {u0 : Int32} {cx : jCX} {f : Nat → Int32} {g : Nat → Nat → Int32} {n : Nat → Nat → Int64} {b : Nat → Nat → Int32} {l : Nat → Int64} {t : List jE} {z : Nat × Nat × Nat × (Nat → Int32)}  : jev D 208 6 ([some (.ref 79), some (.int x1), some (.int x2), some (.int x3)], []) [.int u0] (jXt cx (jY f g n b l t), z) = if u0 = 0 then (some (.inl (some (.int 0)), (jXt cx (jY f g n b l t), z))) else (if x2 < 0 then (some (.inl (some (.int 0)), (jXt cx (jY f g n b l t), z))) else (if x2 < 12 then (if jout x1 138 then none else (if (((g 23 x1.toNatClampNeg) >>> (x2 &&& 31)) &&& 1) = 1 then (K_m_flap_25 D x1 x2 x3 1 cx f g n b l t z) else (K_m_flap_25 D x1 x2 x3 0 cx f g n b l t z))) else (some (.inl (some (.int 0)), (jXt cx (jY f g n b l t), z))))) := by
  refine (jev_blk 1 (pc' := if u0 = 0 then 27 else 7) (L' := ([some (.ref 79), some (.int x1), some (.int x2), some (.int x3)], [])) (S' := []) (h' := (jXt cx (jY f g n b l t), z)) rfl).trans (jev_ite.trans (jite_congr (fun _ => ?_) (fun _ => ?_)))
  · refine (jev_blk 1 (pc' := 28) (L' := ([some (.ref 79), some (.int x1), some (.int x2), some (.int x3)], [])) (S' := [.int 0]) (h' := (jXt cx (jY f g n b l t), z)) rfl).trans ?_
    exact jev_fin rfl
  · refine (jev_blk 2 (pc' := if x2 < 0 then 27 else 9) (L' := ([some (.ref 79), some (.int x1), some (.int x2), some (.int x3)], [])) (S' := []) (h' := (jXt cx (jY f g n b l t), z)) rfl).trans (jev_ite.trans (jite_congr (fun _ => ?_) (fun _ => ?_)))
    · refine (jev_blk 1 (pc' := 28) (L' := ([some (.ref 79), some (.int x1), some (.int x2), some (.int x3)], [])) (S' := [.int 0]) (h' := (jXt cx (jY f g n b l t), z)) rfl).trans ?_
      exact jev_fin rfl
    · refine (jev_blk 3 (pc' := if x2 < 12 then 12 else 27) (L' := ([some (.ref 79), some (.int x1), some (.int x2), some (.int x3)], [])) (S' := []) (h' := (jXt cx (jY f g n b l t), z)) rfl).trans (jev_ite.trans (jite_congr (fun _ => ?_) (fun _ => ?_)))
      · refine (jev_blk 3 (pc' := 15) (L' := ([some (.ref 79), some (.int x1), some (.int x2), some (.int x3)], [])) (S' := [.int x1, .ref 105]) (h' := (jXt cx (jY f g n b l t), z)) rfl).trans ?_
        refine (jev_grd (q := jout x1 138) (pc' := 16) (L' := ([some (.ref 79), some (.int x1), some (.int x2), some (.int x3)], [])) (S' := [.int (g 23 x1.toNatClampNeg)]) (h' := (jXt cx (jY f g n b l t), z)) rfl).trans (jite_congr (fun _ => rfl) (fun _ => ?_))
        refine (jev_blk 6 (pc' := if (((g 23 x1.toNatClampNeg) >>> (x2 &&& 31)) &&& 1) = 1 then 22 else 24) (L' := ([some (.ref 79), some (.int x1), some (.int x2), some (.int x3)], [])) (S' := []) (h' := (jXt cx (jY f g n b l t), z)) rfl).trans (jev_ite.trans (jite_congr (fun _ => ?_) (fun _ => ?_)))
        · exact jev_blk 2 rfl
        · exact jev_blk 1 rfl
      · refine (jev_blk 1 (pc' := 28) (L' := ([some (.ref 79), some (.int x1), some (.int x2), some (.int x3)], [])) (S' := [.int 0]) (h' := (jXt cx (jY f g n b l t), z)) rfl).trans ?_
        exact jev_fin rfl
set_option maxRecDepth 20000 in
theorem E_m_flap_25 {D : Nat}  {x1 : Int32} {x2 : Int32} {x3 : Int32} {u0 : Int32} {cx : jCX} {f : Nat → Int32} {g : Nat → Nat → Int32} {n : Nat → Nat → Int64} {b : Nat → Nat → Int32} {l : Nat → Int64} {t : List jE} {z : Nat × Nat × Nat × (Nat → Int32)}  : K_m_flap_25 D x1 x2 x3 u0 cx f g n b l t z = if u0 = x3 then (some (.inl (some (.int 0)), (jXt cx (jY f g n b l t), z))) else (jbO (K_m_keepNow D cx f g n b l t z) (jk D 208 31 ([some (.ref 79), some (.int x1), some (.int x2), some (.int x3)], []) [])) := by
  refine (jev_blk 2 (pc' := if u0 = x3 then 27 else 29) (L' := ([some (.ref 79), some (.int x1), some (.int x2), some (.int x3)], [])) (S' := []) (h' := (jXt cx (jY f g n b l t), z)) rfl).trans (jev_ite.trans (jite_congr (fun _ => ?_) (fun _ => ?_)))
  · refine (jev_blk 1 (pc' := 28) (L' := ([some (.ref 79), some (.int x1), some (.int x2), some (.int x3)], [])) (S' := [.int 0]) (h' := (jXt cx (jY f g n b l t), z)) rfl).trans ?_
    exact jev_fin rfl
  · refine (jev_blk 1 (pc' := 30) (L' := ([some (.ref 79), some (.int x1), some (.int x2), some (.int x3)], [])) (S' := [.ref 79]) (h' := (jXt cx (jY f g n b l t), z)) rfl).trans ?_
    exact jev_callb (nx := 31) (rest := []) rfl
set_option maxRecDepth 20000 in
theorem E_m_flap_31 {D : Nat}  {x1 : Int32} {x2 : Int32} {d3 : Option Value} {cx : jCX} {f : Nat → Int32} {g : Nat → Nat → Int32} {n : Nat → Nat → Int64} {b : Nat → Nat → Int32} {l : Nat → Int64} {t : List jE} {z : Nat × Nat × Nat × (Nat → Int32)}  : jev D 208 31 ([some (.ref 79), some (.int x1), some (.int x2), d3], []) [] (jXt cx (jY f g n b l t), z) = if jout x1 138 then none else (if jout x1 138 then none else (some (.inl (some (.int 1)), (jXt cx (jY f (jup g 23 ((jup (g 23) (x1.toNatClampNeg) ((g 23 x1.toNatClampNeg) ^^^ (1 <<< (x2 &&& 31)))))) n b l t), z)))) := by
  refine (jev_blk 4 (pc' := 35) (L' := ([some (.ref 79), some (.int x1), some (.int x2), d3], [])) (S' := [.int x1, .ref 105, .int x1, .ref 105]) (h' := (jXt cx (jY f g n b l t), z)) rfl).trans ?_
  refine (jev_grd (q := jout x1 138) (pc' := 36) (L' := ([some (.ref 79), some (.int x1), some (.int x2), d3], [])) (S' := [.int (g 23 x1.toNatClampNeg), .int x1, .ref 105]) (h' := (jXt cx (jY f g n b l t), z)) rfl).trans (jite_congr (fun _ => rfl) (fun _ => ?_))
  refine (jev_blk 4 (pc' := 40) (L' := ([some (.ref 79), some (.int x1), some (.int x2), d3], [])) (S' := [.int ((g 23 x1.toNatClampNeg) ^^^ (1 <<< (x2 &&& 31))), .int x1, .ref 105]) (h' := (jXt cx (jY f g n b l t), z)) rfl).trans ?_
  refine (jev_grd (q := jout x1 138) (pc' := 41) (L' := ([some (.ref 79), some (.int x1), some (.int x2), d3], [])) (S' := []) (h' := (jXt cx (jY f (jup g 23 ((jup (g 23) (x1.toNatClampNeg) ((g 23 x1.toNatClampNeg) ^^^ (1 <<< (x2 &&& 31)))))) n b l t), z)) rfl).trans (jite_congr (fun _ => rfl) (fun _ => ?_))
  refine (jev_blk 1 (pc' := 42) (L' := ([some (.ref 79), some (.int x1), some (.int x2), d3], [])) (S' := [.int 1]) (h' := (jXt cx (jY f (jup g 23 ((jup (g 23) (x1.toNatClampNeg) ((g 23 x1.toNatClampNeg) ^^^ (1 <<< (x2 &&& 31)))))) n b l t), z)) rfl).trans ?_
  exact jev_fin rfl
set_option maxRecDepth 20000 in
theorem E_m_strike {D : Nat}  {a0 : Int32} {a1 : Int32} {cx : jCX} {f : Nat → Int32} {g : Nat → Nat → Int32} {n : Nat → Nat → Int64} {b : Nat → Nat → Int32} {l : Nat → Int64} {t : List jE} {z : Nat × Nat × Nat × (Nat → Int32)}  : K_m_strike D a0 a1 cx f g n b l t z = jbO (K_m_isScare D a0 cx (jup f 0 (0)) g n b l t z) (jk D 209 6 ([some (.ref 79), some (.int a0), some (.int a1)], []) []) := by
  refine (jev_blk 5 (pc' := 5) (L' := ([some (.ref 79), some (.int a0), some (.int a1)], [])) (S' := [.int a0, .ref 79]) (h' := (jXt cx (jY (jup f 0 (0)) g n b l t), z)) rfl).trans ?_
  exact jev_callb (nx := 6) (rest := []) rfl
set_option maxRecDepth 20000 in
theorem E_m_strike_6 {D : Nat}  {x1 : Int32} {x2 : Int32} {u0 : Int32} {cx : jCX} {f : Nat → Int32} {g : Nat → Nat → Int32} {n : Nat → Nat → Int64} {b : Nat → Nat → Int32} {l : Nat → Int64} {t : List jE} {z : Nat × Nat × Nat × (Nat → Int32)}  : jev D 209 6 ([some (.ref 79), some (.int x1), some (.int x2)], []) [.int u0] (jXt cx (jY f g n b l t), z) = if u0 = 0 then (some (.inl (some (.int 0)), (jXt cx (jY f g n b l t), z))) else (if (((g 19 0) >>> (x1 &&& 31)) &&& 1) = 1 then (K_m_strike_20 D x1 x2 1 cx f g n b l t z) else (K_m_strike_20 D x1 x2 0 cx f g n b l t z)) := by
  refine (jev_blk 1 (pc' := if u0 = 0 then 22 else 7) (L' := ([some (.ref 79), some (.int x1), some (.int x2)], [])) (S' := []) (h' := (jXt cx (jY f g n b l t), z)) rfl).trans (jev_ite.trans (jite_congr (fun _ => ?_) (fun _ => ?_)))
  · refine (jev_blk 1 (pc' := 23) (L' := ([some (.ref 79), some (.int x1), some (.int x2)], [])) (S' := [.int 0]) (h' := (jXt cx (jY f g n b l t), z)) rfl).trans ?_
    exact jev_fin rfl
  · refine (jev_blk 10 (pc' := if (((g 19 0) >>> (x1 &&& 31)) &&& 1) = 1 then 17 else 19) (L' := ([some (.ref 79), some (.int x1), some (.int x2)], [])) (S' := []) (h' := (jXt cx (jY f g n b l t), z)) rfl).trans (jev_ite.trans (jite_congr (fun _ => ?_) (fun _ => ?_)))
    · exact jev_blk 2 rfl
    · exact jev_blk 1 rfl
set_option maxRecDepth 20000 in
theorem E_m_strike_20 {D : Nat}  {x1 : Int32} {x2 : Int32} {u0 : Int32} {cx : jCX} {f : Nat → Int32} {g : Nat → Nat → Int32} {n : Nat → Nat → Int64} {b : Nat → Nat → Int32} {l : Nat → Int64} {t : List jE} {z : Nat × Nat × Nat × (Nat → Int32)}  : K_m_strike_20 D x1 x2 u0 cx f g n b l t z = if u0 = x2 then (some (.inl (some (.int 0)), (jXt cx (jY f g n b l t), z))) else (jbO (K_m_keepNow D cx f g n b l t z) (jk D 209 26 ([some (.ref 79), some (.int x1), some (.int x2)], []) [])) := by
  refine (jev_blk 2 (pc' := if u0 = x2 then 22 else 24) (L' := ([some (.ref 79), some (.int x1), some (.int x2)], [])) (S' := []) (h' := (jXt cx (jY f g n b l t), z)) rfl).trans (jev_ite.trans (jite_congr (fun _ => ?_) (fun _ => ?_)))
  · refine (jev_blk 1 (pc' := 23) (L' := ([some (.ref 79), some (.int x1), some (.int x2)], [])) (S' := [.int 0]) (h' := (jXt cx (jY f g n b l t), z)) rfl).trans ?_
    exact jev_fin rfl
  · refine (jev_blk 1 (pc' := 25) (L' := ([some (.ref 79), some (.int x1), some (.int x2)], [])) (S' := [.ref 79]) (h' := (jXt cx (jY f g n b l t), z)) rfl).trans ?_
    exact jev_callb (nx := 26) (rest := []) rfl
set_option maxRecDepth 20000 in
theorem E_m_strike_26 {D : Nat}  {x1 : Int32} {d2 : Option Value} {cx : jCX} {f : Nat → Int32} {g : Nat → Nat → Int32} {n : Nat → Nat → Int64} {b : Nat → Nat → Int32} {l : Nat → Int64} {t : List jE} {z : Nat × Nat × Nat × (Nat → Int32)}  : jev D 209 26 ([some (.ref 79), some (.int x1), d2], []) [] (jXt cx (jY f g n b l t), z) = some (.inl (some (.int 1)), (jXt cx (jY f (jup g 19 ((jup (g 19) 0 ((g 19 0) ^^^ (1 <<< (x1 &&& 31)))))) n b l t), z)) := by
  refine (jev_blk 11 (pc' := 37) (L' := ([some (.ref 79), some (.int x1), d2], [])) (S' := [.int 1]) (h' := (jXt cx (jY f (jup g 19 ((jup (g 19) 0 ((g 19 0) ^^^ (1 <<< (x1 &&& 31)))))) n b l t), z)) rfl).trans ?_
  exact jev_fin rfl
set_option maxRecDepth 20000 in
theorem E_m_hat {D : Nat}  {a0 : Int32} {a1 : Int32} {cx : jCX} {f : Nat → Int32} {g : Nat → Nat → Int32} {n : Nat → Nat → Int64} {b : Nat → Nat → Int32} {l : Nat → Int64} {t : List jE} {z : Nat × Nat × Nat × (Nat → Int32)}  : K_m_hat D a0 a1 cx f g n b l t z = jbO (K_m_isScare D a0 cx (jup f 0 (0)) g n b l t z) (jk D 210 6 ([some (.ref 79), some (.int a0), some (.int a1)], []) []) := by
  refine (jev_blk 5 (pc' := 5) (L' := ([some (.ref 79), some (.int a0), some (.int a1)], [])) (S' := [.int a0, .ref 79]) (h' := (jXt cx (jY (jup f 0 (0)) g n b l t), z)) rfl).trans ?_
  exact jev_callb (nx := 6) (rest := []) rfl
set_option maxRecDepth 20000 in
theorem E_m_hat_6 {D : Nat}  {x1 : Int32} {x2 : Int32} {u0 : Int32} {cx : jCX} {f : Nat → Int32} {g : Nat → Nat → Int32} {n : Nat → Nat → Int64} {b : Nat → Nat → Int32} {l : Nat → Int64} {t : List jE} {z : Nat × Nat × Nat × (Nat → Int32)}  : jev D 210 6 ([some (.ref 79), some (.int x1), some (.int x2)], []) [.int u0] (jXt cx (jY f g n b l t), z) = if u0 = 0 then (some (.inl (some (.int 0)), (jXt cx (jY f g n b l t), z))) else (if x2 < 0 then (some (.inl (some (.int 0)), (jXt cx (jY f g n b l t), z))) else (if 9 < x2 then (some (.inl (some (.int 0)), (jXt cx (jY f g n b l t), z))) else (if jout x1 138 then none else (if (g 24 x1.toNatClampNeg) = x2 then (some (.inl (some (.int 0)), (jXt cx (jY f g n b l t), z))) else (jbO (K_m_keepNow D cx f g n b l t z) (jk D 210 22 ([some (.ref 79), some (.int x1), some (.int x2)], []) [])))))) := by
  refine (jev_blk 1 (pc' := if u0 = 0 then 18 else 7) (L' := ([some (.ref 79), some (.int x1), some (.int x2)], [])) (S' := []) (h' := (jXt cx (jY f g n b l t), z)) rfl).trans (jev_ite.trans (jite_congr (fun _ => ?_) (fun _ => ?_)))
  · refine (jev_blk 1 (pc' := 19) (L' := ([some (.ref 79), some (.int x1), some (.int x2)], [])) (S' := [.int 0]) (h' := (jXt cx (jY f g n b l t), z)) rfl).trans ?_
    exact jev_fin rfl
  · refine (jev_blk 2 (pc' := if x2 < 0 then 18 else 9) (L' := ([some (.ref 79), some (.int x1), some (.int x2)], [])) (S' := []) (h' := (jXt cx (jY f g n b l t), z)) rfl).trans (jev_ite.trans (jite_congr (fun _ => ?_) (fun _ => ?_)))
    · refine (jev_blk 1 (pc' := 19) (L' := ([some (.ref 79), some (.int x1), some (.int x2)], [])) (S' := [.int 0]) (h' := (jXt cx (jY f g n b l t), z)) rfl).trans ?_
      exact jev_fin rfl
    · refine (jev_blk 3 (pc' := if 9 < x2 then 18 else 12) (L' := ([some (.ref 79), some (.int x1), some (.int x2)], [])) (S' := []) (h' := (jXt cx (jY f g n b l t), z)) rfl).trans (jev_ite.trans (jite_congr (fun _ => ?_) (fun _ => ?_)))
      · refine (jev_blk 1 (pc' := 19) (L' := ([some (.ref 79), some (.int x1), some (.int x2)], [])) (S' := [.int 0]) (h' := (jXt cx (jY f g n b l t), z)) rfl).trans ?_
        exact jev_fin rfl
      · refine (jev_blk 3 (pc' := 15) (L' := ([some (.ref 79), some (.int x1), some (.int x2)], [])) (S' := [.int x1, .ref 106]) (h' := (jXt cx (jY f g n b l t), z)) rfl).trans ?_
        refine (jev_grd (q := jout x1 138) (pc' := 16) (L' := ([some (.ref 79), some (.int x1), some (.int x2)], [])) (S' := [.int (g 24 x1.toNatClampNeg)]) (h' := (jXt cx (jY f g n b l t), z)) rfl).trans (jite_congr (fun _ => rfl) (fun _ => ?_))
        refine (jev_blk 2 (pc' := if (g 24 x1.toNatClampNeg) = x2 then 18 else 20) (L' := ([some (.ref 79), some (.int x1), some (.int x2)], [])) (S' := []) (h' := (jXt cx (jY f g n b l t), z)) rfl).trans (jev_ite.trans (jite_congr (fun _ => ?_) (fun _ => ?_)))
        · refine (jev_blk 1 (pc' := 19) (L' := ([some (.ref 79), some (.int x1), some (.int x2)], [])) (S' := [.int 0]) (h' := (jXt cx (jY f g n b l t), z)) rfl).trans ?_
          exact jev_fin rfl
        · refine (jev_blk 1 (pc' := 21) (L' := ([some (.ref 79), some (.int x1), some (.int x2)], [])) (S' := [.ref 79]) (h' := (jXt cx (jY f g n b l t), z)) rfl).trans ?_
          exact jev_callb (nx := 22) (rest := []) rfl
set_option maxRecDepth 20000 in
theorem E_m_hat_22 {D : Nat}  {x1 : Int32} {x2 : Int32} {cx : jCX} {f : Nat → Int32} {g : Nat → Nat → Int32} {n : Nat → Nat → Int64} {b : Nat → Nat → Int32} {l : Nat → Int64} {t : List jE} {z : Nat × Nat × Nat × (Nat → Int32)}  : jev D 210 22 ([some (.ref 79), some (.int x1), some (.int x2)], []) [] (jXt cx (jY f g n b l t), z) = if jout x1 138 then none else (some (.inl (some (.int 1)), (jXt cx (jY f (jup g 24 ((jup (g 24) (x1.toNatClampNeg) x2))) n b l t), z))) := by
  refine (jev_blk 4 (pc' := 26) (L' := ([some (.ref 79), some (.int x1), some (.int x2)], [])) (S' := [.int x2, .int x1, .ref 106]) (h' := (jXt cx (jY f g n b l t), z)) rfl).trans ?_
  refine (jev_grd (q := jout x1 138) (pc' := 27) (L' := ([some (.ref 79), some (.int x1), some (.int x2)], [])) (S' := []) (h' := (jXt cx (jY f (jup g 24 ((jup (g 24) (x1.toNatClampNeg) x2))) n b l t), z)) rfl).trans (jite_congr (fun _ => rfl) (fun _ => ?_))
  refine (jev_blk 1 (pc' := 28) (L' := ([some (.ref 79), some (.int x1), some (.int x2)], [])) (S' := [.int 1]) (h' := (jXt cx (jY f (jup g 24 ((jup (g 24) (x1.toNatClampNeg) x2))) n b l t), z)) rfl).trans ?_
  exact jev_fin rfl
set_option maxRecDepth 20000 in
theorem E_m_go {D : Nat}  {a0 : Int32} {cx : jCX} {f : Nat → Int32} {g : Nat → Nat → Int32} {n : Nat → Nat → Int64} {b : Nat → Nat → Int32} {l : Nat → Int64} {t : List jE} {z : Nat × Nat × Nat × (Nat → Int32)}  : K_m_go D a0 cx f g n b l t z = if a0 < 0 then (some (.inl (some (.int (-1))), (jXt cx (jY (jup f 0 (0)) g n b l t), z))) else (if 99 < a0 then (some (.inl (some (.int (-1))), (jXt cx (jY (jup f 0 (0)) g n b l t), z))) else (if 999 < ((g 14 0) + (((g 15 0) + a0) / 12)) then (some (.inl (some (.int (-1))), (jXt cx (jY (jup f 0 (0)) g n b l t), z))) else (if 0 < a0 then (K_m_go_30 D a0 none cx (jup (jup f 0 (0)) 18 (0)) g n b l t z) else (K_m_go_30 D a0 none cx (jup f 0 (0)) g n b l t z)))) := by
  refine (jev_blk 5 (pc' := if a0 < 0 then 23 else 5) (L' := ([some (.ref 79), some (.int a0), none], [])) (S' := []) (h' := (jXt cx (jY (jup f 0 (0)) g n b l t), z)) rfl).trans (jev_ite.trans (jite_congr (fun _ => ?_) (fun _ => ?_)))
  · refine (jev_blk 1 (pc' := 24) (L' := ([some (.ref 79), some (.int a0), none], [])) (S' := [.int (-1)]) (h' := (jXt cx (jY (jup f 0 (0)) g n b l t), z)) rfl).trans ?_
    exact jev_fin rfl
  · refine (jev_blk 3 (pc' := if 99 < a0 then 23 else 8) (L' := ([some (.ref 79), some (.int a0), none], [])) (S' := []) (h' := (jXt cx (jY (jup f 0 (0)) g n b l t), z)) rfl).trans (jev_ite.trans (jite_congr (fun _ => ?_) (fun _ => ?_)))
    · refine (jev_blk 1 (pc' := 24) (L' := ([some (.ref 79), some (.int a0), none], [])) (S' := [.int (-1)]) (h' := (jXt cx (jY (jup f 0 (0)) g n b l t), z)) rfl).trans ?_
      exact jev_fin rfl
    · refine (jev_blk 15 (pc' := if 999 < ((g 14 0) + (((g 15 0) + a0) / 12)) then 23 else 25) (L' := ([some (.ref 79), some (.int a0), none], [])) (S' := []) (h' := (jXt cx (jY (jup f 0 (0)) g n b l t), z)) rfl).trans (jev_ite.trans (jite_congr (fun _ => ?_) (fun _ => ?_)))
      · refine (jev_blk 1 (pc' := 24) (L' := ([some (.ref 79), some (.int a0), none], [])) (S' := [.int (-1)]) (h' := (jXt cx (jY (jup f 0 (0)) g n b l t), z)) rfl).trans ?_
        exact jev_fin rfl
      · refine (jev_blk 2 (pc' := if 0 < a0 then 27 else 30) (L' := ([some (.ref 79), some (.int a0), none], [])) (S' := []) (h' := (jXt cx (jY (jup f 0 (0)) g n b l t), z)) rfl).trans (jev_ite.trans (jite_congr (fun _ => ?_) (fun _ => ?_)))
        · exact jev_blk 3 rfl
        · rfl
set_option maxRecDepth 20000 in
theorem E_m_go_30 {D : Nat}  {x1 : Int32} {d2 : Option Value} {cx : jCX} {f : Nat → Int32} {g : Nat → Nat → Int32} {n : Nat → Nat → Int64} {b : Nat → Nat → Int32} {l : Nat → Int64} {t : List jE} {z : Nat × Nat × Nat × (Nat → Int32)}  : K_m_go_30 D x1 d2 cx f g n b l t z = K_m_go_32 D x1 0 cx f g n b l t z := by
  exact jev_blk 2 rfl
set_option maxRecDepth 20000 in
theorem L_m_go_32 {D : Nat}  {x1 : Int32} {x2 : Int32} {cx : jCX} {f : Nat → Int32} {g : Nat → Nat → Int32} {n : Nat → Nat → Int64} {b : Nat → Nat → Int32} {l : Nat → Int64} {t : List jE} {z : Nat × Nat × Nat × (Nat → Int32)}  : K_m_go_32 D x1 x2 cx f g n b l t z = if x2 < x1 then (jbO (K_m_passes D 0 cx f g n b l t z) (jk D 211 38 ([some (.ref 79), some (.int x1), some (.int x2)], []) [])) else (some (.inl (some (.int (g 15 0))), (jXt cx (jY f g n b l t), z))) := by
  refine (jev_blk 3 (pc' := if x2 < x1 then 35 else 40) (L' := ([some (.ref 79), some (.int x1), some (.int x2)], [])) (S' := []) (h' := (jXt cx (jY f g n b l t), z)) rfl).trans (jev_ite.trans (jite_congr (fun _ => ?_) (fun _ => ?_)))
  · refine (jev_blk 2 (pc' := 37) (L' := ([some (.ref 79), some (.int x1), some (.int x2)], [])) (S' := [.int 0, .ref 79]) (h' := (jXt cx (jY f g n b l t), z)) rfl).trans ?_
    exact jev_callb (nx := 38) (rest := []) rfl
  · refine (jev_blk 4 (pc' := 44) (L' := ([some (.ref 79), some (.int x1), some (.int x2)], [])) (S' := [.int (g 15 0)]) (h' := (jXt cx (jY f g n b l t), z)) rfl).trans ?_
    exact jev_fin rfl
set_option maxRecDepth 20000 in
theorem E_m_go_38 {D : Nat}  {x1 : Int32} {x2 : Int32} {cx : jCX} {f : Nat → Int32} {g : Nat → Nat → Int32} {n : Nat → Nat → Int64} {b : Nat → Nat → Int32} {l : Nat → Int64} {t : List jE} {z : Nat × Nat × Nat × (Nat → Int32)}  : jev D 211 38 ([some (.ref 79), some (.int x1), some (.int x2)], []) [] (jXt cx (jY f g n b l t), z) = K_m_go_32 D x1 (x2 + 1) cx f g n b l t z := by
  exact jev_blk 2 rfl
set_option maxRecDepth 20000 in
theorem E_m_both {D : Nat}  {a0 : Int32} {a1 : Int32} {a2 : Int32} {cx : jCX} {f : Nat → Int32} {g : Nat → Nat → Int32} {n : Nat → Nat → Int64} {b : Nat → Nat → Int32} {l : Nat → Int64} {t : List jE} {z : Nat × Nat × Nat × (Nat → Int32)}  : K_m_both D a0 a1 a2 cx f g n b l t z = jbO (K_m_isScare D a0 cx (jup f 0 (0)) g n b l t z) (jk D 212 6 ([some (.ref 79), some (.int a0), some (.int a1), some (.int a2), none, none], []) []) := by
  refine (jev_blk 5 (pc' := 5) (L' := ([some (.ref 79), some (.int a0), some (.int a1), some (.int a2), none, none], [])) (S' := [.int a0, .ref 79]) (h' := (jXt cx (jY (jup f 0 (0)) g n b l t), z)) rfl).trans ?_
  exact jev_callb (nx := 6) (rest := []) rfl
set_option maxRecDepth 20000 in
theorem E_m_both_6 {D : Nat}  {x1 : Int32} {x2 : Int32} {x3 : Int32} {d4 : Option Value} {d5 : Option Value} {u0 : Int32} {cx : jCX} {f : Nat → Int32} {g : Nat → Nat → Int32} {n : Nat → Nat → Int64} {b : Nat → Nat → Int32} {l : Nat → Int64} {t : List jE} {z : Nat × Nat × Nat × (Nat → Int32)}  : jev D 212 6 ([some (.ref 79), some (.int x1), some (.int x2), some (.int x3), d4, d5], []) [.int u0] (jXt cx (jY f g n b l t), z) = if u0 = 0 then (some (.inl (some (.int (-1))), (jXt cx (jY f g n b l t), z))) else (jbO (K_m_isScare D x2 cx f g n b l t z) (jk D 212 10 ([some (.ref 79), some (.int x1), some (.int x2), some (.int x3), d4, d5], []) [])) := by
  refine (jev_blk 1 (pc' := if u0 = 0 then 19 else 7) (L' := ([some (.ref 79), some (.int x1), some (.int x2), some (.int x3), d4, d5], [])) (S' := []) (h' := (jXt cx (jY f g n b l t), z)) rfl).trans (jev_ite.trans (jite_congr (fun _ => ?_) (fun _ => ?_)))
  · refine (jev_blk 1 (pc' := 20) (L' := ([some (.ref 79), some (.int x1), some (.int x2), some (.int x3), d4, d5], [])) (S' := [.int (-1)]) (h' := (jXt cx (jY f g n b l t), z)) rfl).trans ?_
    exact jev_fin rfl
  · refine (jev_blk 2 (pc' := 9) (L' := ([some (.ref 79), some (.int x1), some (.int x2), some (.int x3), d4, d5], [])) (S' := [.int x2, .ref 79]) (h' := (jXt cx (jY f g n b l t), z)) rfl).trans ?_
    exact jev_callb (nx := 10) (rest := []) rfl
set_option maxRecDepth 20000 in
theorem E_m_both_10 {D : Nat}  {x1 : Int32} {x2 : Int32} {x3 : Int32} {d4 : Option Value} {d5 : Option Value} {u0 : Int32} {cx : jCX} {f : Nat → Int32} {g : Nat → Nat → Int32} {n : Nat → Nat → Int64} {b : Nat → Nat → Int32} {l : Nat → Int64} {t : List jE} {z : Nat × Nat × Nat × (Nat → Int32)}  : jev D 212 10 ([some (.ref 79), some (.int x1), some (.int x2), some (.int x3), d4, d5], []) [.int u0] (jXt cx (jY f g n b l t), z) = if u0 = 0 then (some (.inl (some (.int (-1))), (jXt cx (jY f g n b l t), z))) else (if x1 = x2 then (some (.inl (some (.int (-1))), (jXt cx (jY f g n b l t), z))) else (if x3 < 0 then (some (.inl (some (.int (-1))), (jXt cx (jY f g n b l t), z))) else (if 1 < x3 then (some (.inl (some (.int (-1))), (jXt cx (jY f g n b l t), z))) else (if x3 = 0 then (if jout x1 138 then none else (if jout x2 138 then none else (some (.inl (some (.int ((g 23 x1.toNatClampNeg) &&& (g 23 x2.toNatClampNeg)))), (jXt cx (jY f g n b l t), z))))) else (K_m_both_37 D x1 x2 (some (.int x3)) 0 0 cx f g n b l t z))))) := by
  refine (jev_blk 1 (pc' := if u0 = 0 then 19 else 11) (L' := ([some (.ref 79), some (.int x1), some (.int x2), some (.int x3), d4, d5], [])) (S' := []) (h' := (jXt cx (jY f g n b l t), z)) rfl).trans (jev_ite.trans (jite_congr (fun _ => ?_) (fun _ => ?_)))
  · refine (jev_blk 1 (pc' := 20) (L' := ([some (.ref 79), some (.int x1), some (.int x2), some (.int x3), d4, d5], [])) (S' := [.int (-1)]) (h' := (jXt cx (jY f g n b l t), z)) rfl).trans ?_
    exact jev_fin rfl
  · refine (jev_blk 3 (pc' := if x1 = x2 then 19 else 14) (L' := ([some (.ref 79), some (.int x1), some (.int x2), some (.int x3), d4, d5], [])) (S' := []) (h' := (jXt cx (jY f g n b l t), z)) rfl).trans (jev_ite.trans (jite_congr (fun _ => ?_) (fun _ => ?_)))
    · refine (jev_blk 1 (pc' := 20) (L' := ([some (.ref 79), some (.int x1), some (.int x2), some (.int x3), d4, d5], [])) (S' := [.int (-1)]) (h' := (jXt cx (jY f g n b l t), z)) rfl).trans ?_
      exact jev_fin rfl
    · refine (jev_blk 2 (pc' := if x3 < 0 then 19 else 16) (L' := ([some (.ref 79), some (.int x1), some (.int x2), some (.int x3), d4, d5], [])) (S' := []) (h' := (jXt cx (jY f g n b l t), z)) rfl).trans (jev_ite.trans (jite_congr (fun _ => ?_) (fun _ => ?_)))
      · refine (jev_blk 1 (pc' := 20) (L' := ([some (.ref 79), some (.int x1), some (.int x2), some (.int x3), d4, d5], [])) (S' := [.int (-1)]) (h' := (jXt cx (jY f g n b l t), z)) rfl).trans ?_
        exact jev_fin rfl
      · refine (jev_blk 3 (pc' := if 1 < x3 then 19 else 21) (L' := ([some (.ref 79), some (.int x1), some (.int x2), some (.int x3), d4, d5], [])) (S' := []) (h' := (jXt cx (jY f g n b l t), z)) rfl).trans (jev_ite.trans (jite_congr (fun _ => ?_) (fun _ => ?_)))
        · refine (jev_blk 1 (pc' := 20) (L' := ([some (.ref 79), some (.int x1), some (.int x2), some (.int x3), d4, d5], [])) (S' := [.int (-1)]) (h' := (jXt cx (jY f g n b l t), z)) rfl).trans ?_
          exact jev_fin rfl
        · refine (jev_blk 2 (pc' := if x3 = 0 then 23 else 33) (L' := ([some (.ref 79), some (.int x1), some (.int x2), some (.int x3), d4, d5], [])) (S' := []) (h' := (jXt cx (jY f g n b l t), z)) rfl).trans (jev_ite.trans (jite_congr (fun _ => ?_) (fun _ => ?_)))
          · refine (jev_blk 3 (pc' := 26) (L' := ([some (.ref 79), some (.int x1), some (.int x2), some (.int x3), d4, d5], [])) (S' := [.int x1, .ref 105]) (h' := (jXt cx (jY f g n b l t), z)) rfl).trans ?_
            refine (jev_grd (q := jout x1 138) (pc' := 27) (L' := ([some (.ref 79), some (.int x1), some (.int x2), some (.int x3), d4, d5], [])) (S' := [.int (g 23 x1.toNatClampNeg)]) (h' := (jXt cx (jY f g n b l t), z)) rfl).trans (jite_congr (fun _ => rfl) (fun _ => ?_))
            refine (jev_blk 3 (pc' := 30) (L' := ([some (.ref 79), some (.int x1), some (.int x2), some (.int x3), d4, d5], [])) (S' := [.int x2, .ref 105, .int (g 23 x1.toNatClampNeg)]) (h' := (jXt cx (jY f g n b l t), z)) rfl).trans ?_
            refine (jev_grd (q := jout x2 138) (pc' := 31) (L' := ([some (.ref 79), some (.int x1), some (.int x2), some (.int x3), d4, d5], [])) (S' := [.int (g 23 x2.toNatClampNeg), .int (g 23 x1.toNatClampNeg)]) (h' := (jXt cx (jY f g n b l t), z)) rfl).trans (jite_congr (fun _ => rfl) (fun _ => ?_))
            refine (jev_blk 1 (pc' := 32) (L' := ([some (.ref 79), some (.int x1), some (.int x2), some (.int x3), d4, d5], [])) (S' := [.int ((g 23 x1.toNatClampNeg) &&& (g 23 x2.toNatClampNeg))]) (h' := (jXt cx (jY f g n b l t), z)) rfl).trans ?_
            exact jev_fin rfl
          · exact jev_blk 4 rfl
set_option maxRecDepth 20000 in
theorem L_m_both_37 {D : Nat}  {x1 : Int32} {x2 : Int32} {d3 : Option Value} {x4 : Int32} {x5 : Int32} {cx : jCX} {f : Nat → Int32} {g : Nat → Nat → Int32} {n : Nat → Nat → Int64} {b : Nat → Nat → Int32} {l : Nat → Int64} {t : List jE} {z : Nat × Nat × Nat × (Nat → Int32)}  : K_m_both_37 D x1 x2 d3 x4 x5 cx f g n b l t z = jbO (K_m_cells D cx f g n b l t z) (jk D 212 40 ([some (.ref 79), some (.int x1), some (.int x2), d3, some (.int x4), some (.int x5)], []) [.int x5]) := by
  refine (jev_blk 2 (pc' := 39) (L' := ([some (.ref 79), some (.int x1), some (.int x2), d3, some (.int x4), some (.int x5)], [])) (S' := [.ref 79, .int x5]) (h' := (jXt cx (jY f g n b l t), z)) rfl).trans ?_
  exact jev_callb (nx := 40) (rest := [.int x5]) rfl
set_option maxRecDepth 20000 in
theorem E_m_both_40 {D : Nat}  {x1 : Int32} {x2 : Int32} {d3 : Option Value} {x4 : Int32} {x5 : Int32} {u0 : Int32} {u1 : Int32} {cx : jCX} {f : Nat → Int32} {g : Nat → Nat → Int32} {n : Nat → Nat → Int64} {b : Nat → Nat → Int32} {l : Nat → Int64} {t : List jE} {z : Nat × Nat × Nat × (Nat → Int32)}  : jev D 212 40 ([some (.ref 79), some (.int x1), some (.int x2), d3, some (.int x4), some (.int x5)], []) [.int u0, .int u1] (jXt cx (jY f g n b l t), z) = if u1 < u0 then (jbO (K_m_isSeen D 0 x1 x5 cx f g n b l t z) (jk D 212 47 ([some (.ref 79), some (.int x1), some (.int x2), d3, some (.int x4), some (.int x5)], []) [.int x4])) else (some (.inl (some (.int x4)), (jXt cx (jY f g n b l t), z))) := by
  refine (jev_blk 1 (pc' := if u1 < u0 then 41 else 64) (L' := ([some (.ref 79), some (.int x1), some (.int x2), d3, some (.int x4), some (.int x5)], [])) (S' := []) (h' := (jXt cx (jY f g n b l t), z)) rfl).trans (jev_ite.trans (jite_congr (fun _ => ?_) (fun _ => ?_)))
  · refine (jev_blk 5 (pc' := 46) (L' := ([some (.ref 79), some (.int x1), some (.int x2), d3, some (.int x4), some (.int x5)], [])) (S' := [.int x5, .int x1, .int 0, .ref 79, .int x4]) (h' := (jXt cx (jY f g n b l t), z)) rfl).trans ?_
    exact jev_callb (nx := 47) (rest := [.int x4]) rfl
  · refine (jev_blk 1 (pc' := 65) (L' := ([some (.ref 79), some (.int x1), some (.int x2), d3, some (.int x4), some (.int x5)], [])) (S' := [.int x4]) (h' := (jXt cx (jY f g n b l t), z)) rfl).trans ?_
    exact jev_fin rfl
set_option maxRecDepth 20000 in
theorem E_m_both_47 {D : Nat}  {x1 : Int32} {x2 : Int32} {d3 : Option Value} {d4 : Option Value} {x5 : Int32} {u0 : Int32} {u1 : Int32} {cx : jCX} {f : Nat → Int32} {g : Nat → Nat → Int32} {n : Nat → Nat → Int64} {b : Nat → Nat → Int32} {l : Nat → Int64} {t : List jE} {z : Nat × Nat × Nat × (Nat → Int32)}  : jev D 212 47 ([some (.ref 79), some (.int x1), some (.int x2), d3, d4, some (.int x5)], []) [.int u0, .int u1] (jXt cx (jY f g n b l t), z) = if u0 = 0 then (K_m_both_59 D x1 x2 d3 d4 x5 u1 cx f g n b l t z) else (jbO (K_m_isSeen D 0 x2 x5 cx f g n b l t z) (jk D 212 53 ([some (.ref 79), some (.int x1), some (.int x2), d3, d4, some (.int x5)], []) [.int u1])) := by
  refine (jev_blk 1 (pc' := if u0 = 0 then 59 else 48) (L' := ([some (.ref 79), some (.int x1), some (.int x2), d3, d4, some (.int x5)], [])) (S' := [.int u1]) (h' := (jXt cx (jY f g n b l t), z)) rfl).trans (jev_ite.trans (jite_congr (fun _ => ?_) (fun _ => ?_)))
  · rfl
  · refine (jev_blk 4 (pc' := 52) (L' := ([some (.ref 79), some (.int x1), some (.int x2), d3, d4, some (.int x5)], [])) (S' := [.int x5, .int x2, .int 0, .ref 79, .int u1]) (h' := (jXt cx (jY f g n b l t), z)) rfl).trans ?_
    exact jev_callb (nx := 53) (rest := [.int u1]) rfl
set_option maxRecDepth 20000 in
theorem E_m_both_59 {D : Nat}  {x1 : Int32} {x2 : Int32} {d3 : Option Value} {d4 : Option Value} {x5 : Int32} {u0 : Int32} {cx : jCX} {f : Nat → Int32} {g : Nat → Nat → Int32} {n : Nat → Nat → Int64} {b : Nat → Nat → Int32} {l : Nat → Int64} {t : List jE} {z : Nat × Nat × Nat × (Nat → Int32)}  : K_m_both_59 D x1 x2 d3 d4 x5 u0 cx f g n b l t z = K_m_both_60 D x1 x2 d3 d4 x5 0 u0 cx f g n b l t z := by
  exact jev_blk 1 rfl
set_option maxRecDepth 20000 in
theorem E_m_both_60 {D : Nat}  {x1 : Int32} {x2 : Int32} {d3 : Option Value} {d4 : Option Value} {x5 : Int32} {u0 : Int32} {u1 : Int32} {cx : jCX} {f : Nat → Int32} {g : Nat → Nat → Int32} {n : Nat → Nat → Int64} {b : Nat → Nat → Int32} {l : Nat → Int64} {t : List jE} {z : Nat × Nat × Nat × (Nat → Int32)}  : K_m_both_60 D x1 x2 d3 d4 x5 u0 u1 cx f g n b l t z = K_m_both_37 D x1 x2 d3 (u1 + u0) (x5 + 1) cx f g n b l t z := by
  exact jev_blk 4 rfl
set_option maxRecDepth 20000 in
theorem E_m_both_53 {D : Nat}  {x1 : Int32} {x2 : Int32} {d3 : Option Value} {d4 : Option Value} {x5 : Int32} {u0 : Int32} {u1 : Int32} {cx : jCX} {f : Nat → Int32} {g : Nat → Nat → Int32} {n : Nat → Nat → Int64} {b : Nat → Nat → Int32} {l : Nat → Int64} {t : List jE} {z : Nat × Nat × Nat × (Nat → Int32)}  : jev D 212 53 ([some (.ref 79), some (.int x1), some (.int x2), d3, d4, some (.int x5)], []) [.int u0, .int u1] (jXt cx (jY f g n b l t), z) = if u0 = 0 then (K_m_both_59 D x1 x2 d3 d4 x5 u1 cx f g n b l t z) else (if jout x5 690 then none else (K_m_both_60 D x1 x2 d3 d4 x5 (g 20 x5.toNatClampNeg) u1 cx f g n b l t z)) := by
  refine (jev_blk 1 (pc' := if u0 = 0 then 59 else 54) (L' := ([some (.ref 79), some (.int x1), some (.int x2), d3, d4, some (.int x5)], [])) (S' := [.int u1]) (h' := (jXt cx (jY f g n b l t), z)) rfl).trans (jev_ite.trans (jite_congr (fun _ => ?_) (fun _ => ?_)))
  · rfl
  · refine (jev_blk 3 (pc' := 57) (L' := ([some (.ref 79), some (.int x1), some (.int x2), d3, d4, some (.int x5)], [])) (S' := [.int x5, .ref 102, .int u1]) (h' := (jXt cx (jY f g n b l t), z)) rfl).trans ?_
    refine (jev_grd (q := jout x5 690) (pc' := 58) (L' := ([some (.ref 79), some (.int x1), some (.int x2), d3, d4, some (.int x5)], [])) (S' := [.int (g 20 x5.toNatClampNeg), .int u1]) (h' := (jXt cx (jY f g n b l t), z)) rfl).trans (jite_congr (fun _ => rfl) (fun _ => ?_))
    exact jev_blk 1 rfl
set_option maxRecDepth 20000 in
theorem E_m_expects {D : Nat}  {a0 : Int32} {cx : jCX} {f : Nat → Int32} {g : Nat → Nat → Int32} {n : Nat → Nat → Int64} {b : Nat → Nat → Int32} {l : Nat → Int64} {t : List jE} {z : Nat × Nat × Nat × (Nat → Int32)}  : K_m_expects D a0 cx f g n b l t z = if a0 < 0 then (some (.inl (some (.int (-1))), (jXt cx (jY (jup f 0 (0)) g n b l t), z))) else (if a0 < 12 then (K_m_expects_14 D a0 0 0 cx (jup f 0 (0)) g n b l t z) else (some (.inl (some (.int (-1))), (jXt cx (jY (jup f 0 (0)) g n b l t), z)))) := by
  refine (jev_blk 5 (pc' := if a0 < 0 then 8 else 5) (L' := ([some (.ref 79), some (.int a0), none, none], [])) (S' := []) (h' := (jXt cx (jY (jup f 0 (0)) g n b l t), z)) rfl).trans (jev_ite.trans (jite_congr (fun _ => ?_) (fun _ => ?_)))
  · refine (jev_blk 1 (pc' := 9) (L' := ([some (.ref 79), some (.int a0), none, none], [])) (S' := [.int (-1)]) (h' := (jXt cx (jY (jup f 0 (0)) g n b l t), z)) rfl).trans ?_
    exact jev_fin rfl
  · refine (jev_blk 3 (pc' := if a0 < 12 then 10 else 8) (L' := ([some (.ref 79), some (.int a0), none, none], [])) (S' := []) (h' := (jXt cx (jY (jup f 0 (0)) g n b l t), z)) rfl).trans (jev_ite.trans (jite_congr (fun _ => ?_) (fun _ => ?_)))
    · exact jev_blk 4 rfl
    · refine (jev_blk 1 (pc' := 9) (L' := ([some (.ref 79), some (.int a0), none, none], [])) (S' := [.int (-1)]) (h' := (jXt cx (jY (jup f 0 (0)) g n b l t), z)) rfl).trans ?_
      exact jev_fin rfl
set_option maxRecDepth 20000 in
theorem L_m_expects_14 {D : Nat}  {x1 : Int32} {x2 : Int32} {x3 : Int32} {cx : jCX} {f : Nat → Int32} {g : Nat → Nat → Int32} {n : Nat → Nat → Int64} {b : Nat → Nat → Int32} {l : Nat → Int64} {t : List jE} {z : Nat × Nat × Nat × (Nat → Int32)}  : K_m_expects_14 D x1 x2 x3 cx f g n b l t z = jbO (K_m_cells D cx f g n b l t z) (jk D 213 17 ([some (.ref 79), some (.int x1), some (.int x2), some (.int x3)], []) [.int x3]) := by
  refine (jev_blk 2 (pc' := 16) (L' := ([some (.ref 79), some (.int x1), some (.int x2), some (.int x3)], [])) (S' := [.ref 79, .int x3]) (h' := (jXt cx (jY f g n b l t), z)) rfl).trans ?_
  exact jev_callb (nx := 17) (rest := [.int x3]) rfl
set_option maxRecDepth 20000 in
theorem E_m_expects_17 {D : Nat}  {x1 : Int32} {x2 : Int32} {x3 : Int32} {u0 : Int32} {u1 : Int32} {cx : jCX} {f : Nat → Int32} {g : Nat → Nat → Int32} {n : Nat → Nat → Int64} {b : Nat → Nat → Int32} {l : Nat → Int64} {t : List jE} {z : Nat × Nat × Nat × (Nat → Int32)}  : jev D 213 17 ([some (.ref 79), some (.int x1), some (.int x2), some (.int x3)], []) [.int u0, .int u1] (jXt cx (jY f g n b l t), z) = if u1 < u0 then (if jout x3 690 then none else (if 0 < (g 20 x3.toNatClampNeg) then (if jout x1 276 then none else (if (((g 21 x1.toNatClampNeg) >>> (x3 &&& 31)) &&& 1) = 0 then (K_m_expects_38 D x1 (some (.int x2)) x3 (1 <<< (x3 &&& 31)) x2 cx f g n b l t z) else (K_m_expects_37 D x1 (some (.int x2)) x3 x2 cx f g n b l t z))) else (K_m_expects_37 D x1 (some (.int x2)) x3 x2 cx f g n b l t z))) else (some (.inl (some (.int x2)), (jXt cx (jY f g n b l t), z))) := by
  refine (jev_blk 1 (pc' := if u1 < u0 then 18 else 42) (L' := ([some (.ref 79), some (.int x1), some (.int x2), some (.int x3)], [])) (S' := []) (h' := (jXt cx (jY f g n b l t), z)) rfl).trans (jev_ite.trans (jite_congr (fun _ => ?_) (fun _ => ?_)))
  · refine (jev_blk 4 (pc' := 22) (L' := ([some (.ref 79), some (.int x1), some (.int x2), some (.int x3)], [])) (S' := [.int x3, .ref 102, .int x2]) (h' := (jXt cx (jY f g n b l t), z)) rfl).trans ?_
    refine (jev_grd (q := jout x3 690) (pc' := 23) (L' := ([some (.ref 79), some (.int x1), some (.int x2), some (.int x3)], [])) (S' := [.int (g 20 x3.toNatClampNeg), .int x2]) (h' := (jXt cx (jY f g n b l t), z)) rfl).trans (jite_congr (fun _ => rfl) (fun _ => ?_))
    refine (jev_blk 1 (pc' := if 0 < (g 20 x3.toNatClampNeg) then 24 else 37) (L' := ([some (.ref 79), some (.int x1), some (.int x2), some (.int x3)], [])) (S' := [.int x2]) (h' := (jXt cx (jY f g n b l t), z)) rfl).trans (jev_ite.trans (jite_congr (fun _ => ?_) (fun _ => ?_)))
    · refine (jev_blk 3 (pc' := 27) (L' := ([some (.ref 79), some (.int x1), some (.int x2), some (.int x3)], [])) (S' := [.int x1, .ref 103, .int x2]) (h' := (jXt cx (jY f g n b l t), z)) rfl).trans ?_
      refine (jev_grd (q := jout x1 276) (pc' := 28) (L' := ([some (.ref 79), some (.int x1), some (.int x2), some (.int x3)], [])) (S' := [.int (g 21 x1.toNatClampNeg), .int x2]) (h' := (jXt cx (jY f g n b l t), z)) rfl).trans (jite_congr (fun _ => rfl) (fun _ => ?_))
      refine (jev_blk 5 (pc' := if (((g 21 x1.toNatClampNeg) >>> (x3 &&& 31)) &&& 1) = 0 then 33 else 37) (L' := ([some (.ref 79), some (.int x1), some (.int x2), some (.int x3)], [])) (S' := [.int x2]) (h' := (jXt cx (jY f g n b l t), z)) rfl).trans (jev_ite.trans (jite_congr (fun _ => ?_) (fun _ => ?_)))
      · exact jev_blk 4 rfl
      · rfl
    · rfl
  · refine (jev_blk 1 (pc' := 43) (L' := ([some (.ref 79), some (.int x1), some (.int x2), some (.int x3)], [])) (S' := [.int x2]) (h' := (jXt cx (jY f g n b l t), z)) rfl).trans ?_
    exact jev_fin rfl
set_option maxRecDepth 20000 in
theorem E_m_expects_38 {D : Nat}  {x1 : Int32} {d2 : Option Value} {x3 : Int32} {u0 : Int32} {u1 : Int32} {cx : jCX} {f : Nat → Int32} {g : Nat → Nat → Int32} {n : Nat → Nat → Int64} {b : Nat → Nat → Int32} {l : Nat → Int64} {t : List jE} {z : Nat × Nat × Nat × (Nat → Int32)}  : K_m_expects_38 D x1 d2 x3 u0 u1 cx f g n b l t z = K_m_expects_14 D x1 (u1 ||| u0) (x3 + 1) cx f g n b l t z := by
  exact jev_blk 4 rfl
set_option maxRecDepth 20000 in
theorem E_m_expects_37 {D : Nat}  {x1 : Int32} {d2 : Option Value} {x3 : Int32} {u0 : Int32} {cx : jCX} {f : Nat → Int32} {g : Nat → Nat → Int32} {n : Nat → Nat → Int64} {b : Nat → Nat → Int32} {l : Nat → Int64} {t : List jE} {z : Nat × Nat × Nat × (Nat → Int32)}  : K_m_expects_37 D x1 d2 x3 u0 cx f g n b l t z = K_m_expects_38 D x1 d2 x3 0 u0 cx f g n b l t z := by
  exact jev_blk 1 rfl
set_option maxRecDepth 20000 in
theorem E_m_seesCrop {D : Nat}  {a0 : Int32} {cx : jCX} {f : Nat → Int32} {g : Nat → Nat → Int32} {n : Nat → Nat → Int64} {b : Nat → Nat → Int32} {l : Nat → Int64} {t : List jE} {z : Nat × Nat × Nat × (Nat → Int32)}  : K_m_seesCrop D a0 cx f g n b l t z = K_m_seesCrop_2 D a0 0 cx f g n b l t z := by
  exact jev_blk 2 rfl
set_option maxRecDepth 20000 in
theorem L_m_seesCrop_2 {D : Nat}  {x1 : Int32} {x2 : Int32} {cx : jCX} {f : Nat → Int32} {g : Nat → Nat → Int32} {n : Nat → Nat → Int64} {b : Nat → Nat → Int32} {l : Nat → Int64} {t : List jE} {z : Nat × Nat × Nat × (Nat → Int32)}  : K_m_seesCrop_2 D x1 x2 cx f g n b l t z = jbO (K_m_cells D cx f g n b l t z) (jk D 214 5 ([some (.ref 79), some (.int x1), some (.int x2)], []) [.int x2]) := by
  refine (jev_blk 2 (pc' := 4) (L' := ([some (.ref 79), some (.int x1), some (.int x2)], [])) (S' := [.ref 79, .int x2]) (h' := (jXt cx (jY f g n b l t), z)) rfl).trans ?_
  exact jev_callb (nx := 5) (rest := [.int x2]) rfl
set_option maxRecDepth 20000 in
theorem E_m_seesCrop_5 {D : Nat}  {x1 : Int32} {x2 : Int32} {u0 : Int32} {u1 : Int32} {cx : jCX} {f : Nat → Int32} {g : Nat → Nat → Int32} {n : Nat → Nat → Int64} {b : Nat → Nat → Int32} {l : Nat → Int64} {t : List jE} {z : Nat × Nat × Nat × (Nat → Int32)}  : jev D 214 5 ([some (.ref 79), some (.int x1), some (.int x2)], []) [.int u0, .int u1] (jXt cx (jY f g n b l t), z) = if u1 < u0 then (if jout x2 690 then none else (if 0 < (g 20 x2.toNatClampNeg) then (jbO (K_m_isSeen D 0 x1 x2 cx f g n b l t z) (jk D 214 16 ([some (.ref 79), some (.int x1), some (.int x2)], []) [])) else (K_m_seesCrop_19 D x1 x2 cx f g n b l t z))) else (some (.inl (some (.int 0)), (jXt cx (jY f g n b l t), z))) := by
  refine (jev_blk 1 (pc' := if u1 < u0 then 6 else 21) (L' := ([some (.ref 79), some (.int x1), some (.int x2)], [])) (S' := []) (h' := (jXt cx (jY f g n b l t), z)) rfl).trans (jev_ite.trans (jite_congr (fun _ => ?_) (fun _ => ?_)))
  · refine (jev_blk 3 (pc' := 9) (L' := ([some (.ref 79), some (.int x1), some (.int x2)], [])) (S' := [.int x2, .ref 102]) (h' := (jXt cx (jY f g n b l t), z)) rfl).trans ?_
    refine (jev_grd (q := jout x2 690) (pc' := 10) (L' := ([some (.ref 79), some (.int x1), some (.int x2)], [])) (S' := [.int (g 20 x2.toNatClampNeg)]) (h' := (jXt cx (jY f g n b l t), z)) rfl).trans (jite_congr (fun _ => rfl) (fun _ => ?_))
    refine (jev_blk 1 (pc' := if 0 < (g 20 x2.toNatClampNeg) then 11 else 19) (L' := ([some (.ref 79), some (.int x1), some (.int x2)], [])) (S' := []) (h' := (jXt cx (jY f g n b l t), z)) rfl).trans (jev_ite.trans (jite_congr (fun _ => ?_) (fun _ => ?_)))
    · refine (jev_blk 4 (pc' := 15) (L' := ([some (.ref 79), some (.int x1), some (.int x2)], [])) (S' := [.int x2, .int x1, .int 0, .ref 79]) (h' := (jXt cx (jY f g n b l t), z)) rfl).trans ?_
      exact jev_callb (nx := 16) (rest := []) rfl
    · rfl
  · refine (jev_blk 1 (pc' := 22) (L' := ([some (.ref 79), some (.int x1), some (.int x2)], [])) (S' := [.int 0]) (h' := (jXt cx (jY f g n b l t), z)) rfl).trans ?_
    exact jev_fin rfl
set_option maxRecDepth 20000 in
theorem E_m_seesCrop_19 {D : Nat}  {x1 : Int32} {x2 : Int32} {cx : jCX} {f : Nat → Int32} {g : Nat → Nat → Int32} {n : Nat → Nat → Int64} {b : Nat → Nat → Int32} {l : Nat → Int64} {t : List jE} {z : Nat × Nat × Nat × (Nat → Int32)}  : K_m_seesCrop_19 D x1 x2 cx f g n b l t z = K_m_seesCrop_2 D x1 (x2 + 1) cx f g n b l t z := by
  exact jev_blk 2 rfl
set_option maxRecDepth 20000 in
theorem E_m_seesCrop_16 {D : Nat}  {x1 : Int32} {x2 : Int32} {u0 : Int32} {cx : jCX} {f : Nat → Int32} {g : Nat → Nat → Int32} {n : Nat → Nat → Int64} {b : Nat → Nat → Int32} {l : Nat → Int64} {t : List jE} {z : Nat × Nat × Nat × (Nat → Int32)}  : jev D 214 16 ([some (.ref 79), some (.int x1), some (.int x2)], []) [.int u0] (jXt cx (jY f g n b l t), z) = if u0 = 0 then (K_m_seesCrop_19 D x1 x2 cx f g n b l t z) else (some (.inl (some (.int 1)), (jXt cx (jY f g n b l t), z))) := by
  refine (jev_blk 1 (pc' := if u0 = 0 then 19 else 17) (L' := ([some (.ref 79), some (.int x1), some (.int x2)], [])) (S' := []) (h' := (jXt cx (jY f g n b l t), z)) rfl).trans (jev_ite.trans (jite_congr (fun _ => ?_) (fun _ => ?_)))
  · rfl
  · refine (jev_blk 1 (pc' := 18) (L' := ([some (.ref 79), some (.int x1), some (.int x2)], [])) (S' := [.int 1]) (h' := (jXt cx (jY f g n b l t), z)) rfl).trans ?_
    exact jev_fin rfl
set_option maxRecDepth 20000 in
theorem E_m_idle {D : Nat}   {cx : jCX} {f : Nat → Int32} {g : Nat → Nat → Int32} {n : Nat → Nat → Int64} {b : Nat → Nat → Int32} {l : Nat → Int64} {t : List jE} {z : Nat × Nat × Nat × (Nat → Int32)}  : K_m_idle D cx f g n b l t z = K_m_idle_7 D 0 0 cx (jup f 0 (0)) g n b l t z := by
  exact jev_blk 7 rfl
set_option maxRecDepth 20000 in
theorem L_m_idle_7 {D : Nat}  {x1 : Int32} {x2 : Int32} {cx : jCX} {f : Nat → Int32} {g : Nat → Nat → Int32} {n : Nat → Nat → Int64} {b : Nat → Nat → Int32} {l : Nat → Int64} {t : List jE} {z : Nat × Nat × Nat × (Nat → Int32)}  : K_m_idle_7 D x1 x2 cx f g n b l t z = if x2 < (g 1 2) then (jbO (K_m_seesCrop D x2 cx f g n b l t z) (jk D 215 17 ([some (.ref 79), some (.int x1), some (.int x2)], []) [.int x1])) else (some (.inl (some (.int x1)), (jXt cx (jY f g n b l t), z))) := by
  refine (jev_blk 6 (pc' := if x2 < (g 1 2) then 13 else 27) (L' := ([some (.ref 79), some (.int x1), some (.int x2)], [])) (S' := []) (h' := (jXt cx (jY f g n b l t), z)) rfl).trans (jev_ite.trans (jite_congr (fun _ => ?_) (fun _ => ?_)))
  · refine (jev_blk 3 (pc' := 16) (L' := ([some (.ref 79), some (.int x1), some (.int x2)], [])) (S' := [.int x2, .ref 79, .int x1]) (h' := (jXt cx (jY f g n b l t), z)) rfl).trans ?_
    exact jev_callb (nx := 17) (rest := [.int x1]) rfl
  · refine (jev_blk 1 (pc' := 28) (L' := ([some (.ref 79), some (.int x1), some (.int x2)], [])) (S' := [.int x1]) (h' := (jXt cx (jY f g n b l t), z)) rfl).trans ?_
    exact jev_fin rfl
set_option maxRecDepth 20000 in
theorem E_m_idle_17 {D : Nat}  {d1 : Option Value} {x2 : Int32} {u0 : Int32} {u1 : Int32} {cx : jCX} {f : Nat → Int32} {g : Nat → Nat → Int32} {n : Nat → Nat → Int64} {b : Nat → Nat → Int32} {l : Nat → Int64} {t : List jE} {z : Nat × Nat × Nat × (Nat → Int32)}  : jev D 215 17 ([some (.ref 79), d1, some (.int x2)], []) [.int u0, .int u1] (jXt cx (jY f g n b l t), z) = if u0 = 0 then (K_m_idle_23 D d1 x2 (1 <<< (x2 &&& 31)) u1 cx f g n b l t z) else (K_m_idle_23 D d1 x2 0 u1 cx f g n b l t z) := by
  refine (jev_blk 1 (pc' := if u0 = 0 then 20 else 18) (L' := ([some (.ref 79), d1, some (.int x2)], [])) (S' := [.int u1]) (h' := (jXt cx (jY f g n b l t), z)) rfl).trans (jev_ite.trans (jite_congr (fun _ => ?_) (fun _ => ?_)))
  · exact jev_blk 3 rfl
  · exact jev_blk 2 rfl
set_option maxRecDepth 20000 in
theorem E_m_idle_23 {D : Nat}  {d1 : Option Value} {x2 : Int32} {u0 : Int32} {u1 : Int32} {cx : jCX} {f : Nat → Int32} {g : Nat → Nat → Int32} {n : Nat → Nat → Int64} {b : Nat → Nat → Int32} {l : Nat → Int64} {t : List jE} {z : Nat × Nat × Nat × (Nat → Int32)}  : K_m_idle_23 D d1 x2 u0 u1 cx f g n b l t z = K_m_idle_7 D (u1 ||| u0) (x2 + 1) cx f g n b l t z := by
  exact jev_blk 4 rfl
set_option maxRecDepth 20000 in
theorem E_m_isDays {D : Nat}  {a0 : Int32} {cx : jCX} {f : Nat → Int32} {g : Nat → Nat → Int32} {n : Nat → Nat → Int64} {b : Nat → Nat → Int32} {l : Nat → Int64} {t : List jE} {z : Nat × Nat × Nat × (Nat → Int32)}  : K_m_isDays D a0 cx f g n b l t z = if a0 < 1 then (some (.inl (some (.int 0)), (jXt cx (jY f g n b l t), z))) else (if 9 < a0 then (some (.inl (some (.int 0)), (jXt cx (jY f g n b l t), z))) else (some (.inl (some (.int 1)), (jXt cx (jY f g n b l t), z)))) := by
  refine (jev_blk 3 (pc' := if a0 < 1 then 8 else 3) (L' := ([some (.int a0)], [])) (S' := []) (h' := (jXt cx (jY f g n b l t), z)) rfl).trans (jev_ite.trans (jite_congr (fun _ => ?_) (fun _ => ?_)))
  · refine (jev_blk 1 (pc' := 9) (L' := ([some (.int a0)], [])) (S' := [.int 0]) (h' := (jXt cx (jY f g n b l t), z)) rfl).trans ?_
    exact jev_fin rfl
  · refine (jev_blk 3 (pc' := if 9 < a0 then 8 else 6) (L' := ([some (.int a0)], [])) (S' := []) (h' := (jXt cx (jY f g n b l t), z)) rfl).trans (jev_ite.trans (jite_congr (fun _ => ?_) (fun _ => ?_)))
    · refine (jev_blk 1 (pc' := 9) (L' := ([some (.int a0)], [])) (S' := [.int 0]) (h' := (jXt cx (jY f g n b l t), z)) rfl).trans ?_
      exact jev_fin rfl
    · refine (jev_blk 2 (pc' := 9) (L' := ([some (.int a0)], [])) (S' := [.int 1]) (h' := (jXt cx (jY f g n b l t), z)) rfl).trans ?_
      exact jev_fin rfl
set_option maxRecDepth 20000 in
theorem E_m_ahead {D : Nat}  {a0 : Int32} {a1 : Int32} {cx : jCX} {f : Nat → Int32} {g : Nat → Nat → Int32} {n : Nat → Nat → Int64} {b : Nat → Nat → Int32} {l : Nat → Int64} {t : List jE} {z : Nat × Nat × Nat × (Nat → Int32)}  : K_m_ahead D a0 a1 cx f g n b l t z = jbO (K_m_isDays D a0 cx (jup f 0 (0)) g n b l t z) (jk D 217 5 ([some (.ref 79), some (.int a0), some (.int a1)], []) []) := by
  refine (jev_blk 4 (pc' := 4) (L' := ([some (.ref 79), some (.int a0), some (.int a1)], [])) (S' := [.int a0]) (h' := (jXt cx (jY (jup f 0 (0)) g n b l t), z)) rfl).trans ?_
  exact jev_callb (nx := 5) (rest := []) rfl
set_option maxRecDepth 20000 in
theorem E_m_ahead_5 {D : Nat}  {x1 : Int32} {x2 : Int32} {u0 : Int32} {cx : jCX} {f : Nat → Int32} {g : Nat → Nat → Int32} {n : Nat → Nat → Int64} {b : Nat → Nat → Int32} {l : Nat → Int64} {t : List jE} {z : Nat × Nat × Nat × (Nat → Int32)}  : jev D 217 5 ([some (.ref 79), some (.int x1), some (.int x2)], []) [.int u0] (jXt cx (jY f g n b l t), z) = if u0 = 0 then (some (.inl (some (.int (-1))), (jXt cx (jY f g n b l t), z))) else (if x2 < 0 then (some (.inl (some (.int (-1))), (jXt cx (jY f g n b l t), z))) else (if 2 < x2 then (some (.inl (some (.int (-1))), (jXt cx (jY f g n b l t), z))) else (jbO (K_m_copies D 1 0 cx f g n b l t z) (jk D 217 17 ([some (.ref 79), some (.int x1), some (.int x2)], []) [])))) := by
  refine (jev_blk 1 (pc' := if u0 = 0 then 11 else 6) (L' := ([some (.ref 79), some (.int x1), some (.int x2)], [])) (S' := []) (h' := (jXt cx (jY f g n b l t), z)) rfl).trans (jev_ite.trans (jite_congr (fun _ => ?_) (fun _ => ?_)))
  · refine (jev_blk 1 (pc' := 12) (L' := ([some (.ref 79), some (.int x1), some (.int x2)], [])) (S' := [.int (-1)]) (h' := (jXt cx (jY f g n b l t), z)) rfl).trans ?_
    exact jev_fin rfl
  · refine (jev_blk 2 (pc' := if x2 < 0 then 11 else 8) (L' := ([some (.ref 79), some (.int x1), some (.int x2)], [])) (S' := []) (h' := (jXt cx (jY f g n b l t), z)) rfl).trans (jev_ite.trans (jite_congr (fun _ => ?_) (fun _ => ?_)))
    · refine (jev_blk 1 (pc' := 12) (L' := ([some (.ref 79), some (.int x1), some (.int x2)], [])) (S' := [.int (-1)]) (h' := (jXt cx (jY f g n b l t), z)) rfl).trans ?_
      exact jev_fin rfl
    · refine (jev_blk 3 (pc' := if 2 < x2 then 11 else 13) (L' := ([some (.ref 79), some (.int x1), some (.int x2)], [])) (S' := []) (h' := (jXt cx (jY f g n b l t), z)) rfl).trans (jev_ite.trans (jite_congr (fun _ => ?_) (fun _ => ?_)))
      · refine (jev_blk 1 (pc' := 12) (L' := ([some (.ref 79), some (.int x1), some (.int x2)], [])) (S' := [.int (-1)]) (h' := (jXt cx (jY f g n b l t), z)) rfl).trans ?_
        exact jev_fin rfl
      · refine (jev_blk 3 (pc' := 16) (L' := ([some (.ref 79), some (.int x1), some (.int x2)], [])) (S' := [.int 0, .int 1, .ref 79]) (h' := (jXt cx (jY f g n b l t), z)) rfl).trans ?_
        exact jev_callb (nx := 17) (rest := []) rfl
set_option maxRecDepth 20000 in
theorem E_m_ahead_17 {D : Nat}  {x1 : Int32} {x2 : Int32} {cx : jCX} {f : Nat → Int32} {g : Nat → Nat → Int32} {n : Nat → Nat → Int64} {b : Nat → Nat → Int32} {l : Nat → Int64} {t : List jE} {z : Nat × Nat × Nat × (Nat → Int32)}  : jev D 217 17 ([some (.ref 79), some (.int x1), some (.int x2)], []) [] (jXt cx (jY f g n b l t), z) = jbO (K_m_runs D x1 cx f g n b l t z) (jk D 217 20 ([some (.ref 79), some (.int x1), some (.int x2)], []) []) := by
  refine (jev_blk 2 (pc' := 19) (L' := ([some (.ref 79), some (.int x1), some (.int x2)], [])) (S' := [.int x1, .ref 79]) (h' := (jXt cx (jY f g n b l t), z)) rfl).trans ?_
  exact jev_callb (nx := 20) (rest := []) rfl
