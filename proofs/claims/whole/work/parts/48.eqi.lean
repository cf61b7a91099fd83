-- EQUATIONS: one a block; E_ unfolds, L_ a loop's head
set_option maxRecDepth 20000 in
theorem E_m_ahead_20 {D : Nat}  {d1 : Option Value} {x2 : Int32} {cx : jCX} {f : Nat → Int32} {g : Nat → Nat → Int32} {n : Nat → Nat → Int64} {b : Nat → Nat → Int32} {l : Nat → Int64} {t : List jE} {z : Nat × Nat × Nat × (Nat → Int32)}  : jev D 217 20 ([some (.ref 79), d1, some (.int x2)], []) [] (jXt cx (jY f g n b l t), z) = if x2 = 0 then (some (.inl (some (.int ((g 16 1) - (g 16 0)))), (jXt cx (jY f g n b l t), z))) else (if x2 = 1 then (some (.inl (some (.int ((g 17 1) - (g 17 0)))), (jXt cx (jY f g n b l t), z))) else (some (.inl (some (.int ((g 18 1) - (g 18 0)))), (jXt cx (jY f g n b l t), z)))) := by
  refine (jev_blk 2 (pc' := if x2 = 0 then 22 else 32) (L' := ([some (.ref 79), d1, some (.int x2)], [])) (S' := []) (h' := (jXt cx (jY f g n b l t), z)) rfl).trans (jev_ite.trans (jite_congr (fun _ => ?_) (fun _ => ?_)))
  · refine (jev_blk 10 (pc' := 54) (L' := ([some (.ref 79), d1, some (.int x2)], [])) (S' := [.int ((g 16 1) - (g 16 0))]) (h' := (jXt cx (jY f g n b l t), z)) rfl).trans ?_
    exact jev_fin rfl
  · refine (jev_blk 3 (pc' := if x2 = 1 then 35 else 45) (L' := ([some (.ref 79), d1, some (.int x2)], [])) (S' := []) (h' := (jXt cx (jY f g n b l t), z)) rfl).trans (jev_ite.trans (jite_congr (fun _ => ?_) (fun _ => ?_)))
    · refine (jev_blk 10 (pc' := 54) (L' := ([some (.ref 79), d1, some (.int x2)], [])) (S' := [.int ((g 17 1) - (g 17 0))]) (h' := (jXt cx (jY f g n b l t), z)) rfl).trans ?_
      exact jev_fin rfl
    · refine (jev_blk 9 (pc' := 54) (L' := ([some (.ref 79), d1, some (.int x2)], [])) (S' := [.int ((g 18 1) - (g 18 0))]) (h' := (jXt cx (jY f g n b l t), z)) rfl).trans ?_
      exact jev_fin rfl
set_option maxRecDepth 20000 in
theorem E_m_clash {D : Nat}  {a0 : Int32} {cx : jCX} {f : Nat → Int32} {g : Nat → Nat → Int32} {n : Nat → Nat → Int64} {b : Nat → Nat → Int32} {l : Nat → Int64} {t : List jE} {z : Nat × Nat × Nat × (Nat → Int32)}  : K_m_clash D a0 cx f g n b l t z = if a0 < 0 then (some (.inl (some (.int (-1))), (jXt cx (jY (jup f 0 (0)) g n b l t), z))) else (if 1 < a0 then (some (.inl (some (.int (-1))), (jXt cx (jY (jup f 0 (0)) g n b l t), z))) else (jbO (K_m_copies D 1 0 cx (jup f 0 (0)) g n b l t z) (jk D 218 14 ([some (.ref 79), some (.int a0), none], []) []))) := by
  refine (jev_blk 5 (pc' := if a0 < 0 then 8 else 5) (L' := ([some (.ref 79), some (.int a0), none], [])) (S' := []) (h' := (jXt cx (jY (jup f 0 (0)) g n b l t), z)) rfl).trans (jev_ite.trans (jite_congr (fun _ => ?_) (fun _ => ?_)))
  · refine (jev_blk 1 (pc' := 9) (L' := ([some (.ref 79), some (.int a0), none], [])) (S' := [.int (-1)]) (h' := (jXt cx (jY (jup f 0 (0)) g n b l t), z)) rfl).trans ?_
    exact jev_fin rfl
  · refine (jev_blk 3 (pc' := if 1 < a0 then 8 else 10) (L' := ([some (.ref 79), some (.int a0), none], [])) (S' := []) (h' := (jXt cx (jY (jup f 0 (0)) g n b l t), z)) rfl).trans (jev_ite.trans (jite_congr (fun _ => ?_) (fun _ => ?_)))
    · refine (jev_blk 1 (pc' := 9) (L' := ([some (.ref 79), some (.int a0), none], [])) (S' := [.int (-1)]) (h' := (jXt cx (jY (jup f 0 (0)) g n b l t), z)) rfl).trans ?_
      exact jev_fin rfl
    · refine (jev_blk 3 (pc' := 13) (L' := ([some (.ref 79), some (.int a0), none], [])) (S' := [.int 0, .int 1, .ref 79]) (h' := (jXt cx (jY (jup f 0 (0)) g n b l t), z)) rfl).trans ?_
      exact jev_callb (nx := 14) (rest := []) rfl
theorem F_m_clash_14 {D : Nat}  {x1 : Int32} {d2 : Option Value} {cx : jCX} {f : Nat → Int32} {g : Nat → Nat → Int32} {n : Nat → Nat → Int64} {b : Nat → Nat → Int32} {l : Nat → Int64} {t : List jE} {z : Nat × Nat × Nat × (Nat → Int32)} : jev D 218 14 ([some (.ref 79), some (.int x1), d2], []) [] (jXt cx (jY f g n b l t), z) = K_m_clash_14 D x1 d2 cx f g n b l t z := rfl
set_option maxRecDepth 20000 in
theorem L_m_clash_14 {D : Nat}  {x1 : Int32} {d2 : Option Value} {cx : jCX} {f : Nat → Int32} {g : Nat → Nat → Int32} {n : Nat → Nat → Int64} {b : Nat → Nat → Int32} {l : Nat → Int64} {t : List jE} {z : Nat × Nat × Nat × (Nat → Int32)}  : K_m_clash_14 D x1 d2 cx f g n b l t z = if (g 14 1) = (g 14 0) then (K_m_clash_25 D x1 0 cx f g n b l t z) else (some (.inl (some (.int (-2))), (jXt cx (jY f g n b l t), z))) := by
  refine (jev_blk 9 (pc' := if (g 14 1) = (g 14 0) then 23 else 67) (L' := ([some (.ref 79), some (.int x1), d2], [])) (S' := []) (h' := (jXt cx (jY f g n b l t), z)) rfl).trans (jev_ite.trans (jite_congr (fun _ => ?_) (fun _ => ?_)))
  · exact jev_blk 2 rfl
  · refine (jev_blk 1 (pc' := 68) (L' := ([some (.ref 79), some (.int x1), d2], [])) (S' := [.int (-2)]) (h' := (jXt cx (jY f g n b l t), z)) rfl).trans ?_
    exact jev_fin rfl
set_option maxRecDepth 20000 in
theorem L_m_clash_25 {D : Nat}  {x1 : Int32} {x2 : Int32} {cx : jCX} {f : Nat → Int32} {g : Nat → Nat → Int32} {n : Nat → Nat → Int64} {b : Nat → Nat → Int32} {l : Nat → Int64} {t : List jE} {z : Nat × Nat × Nat × (Nat → Int32)}  : K_m_clash_25 D x1 x2 cx f g n b l t z = if x2 < (g 1 2) then (jbO (K_m_isOnRota D 1 x2 cx f g n b l t z) (jk D 218 35 ([some (.ref 79), some (.int x1), some (.int x2)], []) [])) else (jbO (K_m_passes D 1 cx f g n b l t z) (jk D 218 66 ([some (.ref 79), some (.int x1), some (.int x2)], []) [])) := by
  refine (jev_blk 6 (pc' := if x2 < (g 1 2) then 31 else 63) (L' := ([some (.ref 79), some (.int x1), some (.int x2)], [])) (S' := []) (h' := (jXt cx (jY f g n b l t), z)) rfl).trans (jev_ite.trans (jite_congr (fun _ => ?_) (fun _ => ?_)))
  · refine (jev_blk 3 (pc' := 34) (L' := ([some (.ref 79), some (.int x1), some (.int x2)], [])) (S' := [.int x2, .int 1, .ref 79]) (h' := (jXt cx (jY f g n b l t), z)) rfl).trans ?_
    exact jev_callb (nx := 35) (rest := []) rfl
  · refine (jev_blk 2 (pc' := 65) (L' := ([some (.ref 79), some (.int x1), some (.int x2)], [])) (S' := [.int 1, .ref 79]) (h' := (jXt cx (jY f g n b l t), z)) rfl).trans ?_
    exact jev_callb (nx := 66) (rest := []) rfl
set_option maxRecDepth 20000 in
theorem E_m_clash_35 {D : Nat}  {x1 : Int32} {x2 : Int32} {u0 : Int32} {cx : jCX} {f : Nat → Int32} {g : Nat → Nat → Int32} {n : Nat → Nat → Int64} {b : Nat → Nat → Int32} {l : Nat → Int64} {t : List jE} {z : Nat × Nat × Nat × (Nat → Int32)}  : jev D 218 35 ([some (.ref 79), some (.int x1), some (.int x2)], []) [.int u0] (jXt cx (jY f g n b l t), z) = if u0 = 0 then (K_m_clash_61 D x1 x2 cx f g n b l t z) else (jbO (K_m_isOnStrike D 1 x2 cx f g n b l t z) (jk D 218 40 ([some (.ref 79), some (.int x1), some (.int x2)], []) [])) := by
  refine (jev_blk 1 (pc' := if u0 = 0 then 61 else 36) (L' := ([some (.ref 79), some (.int x1), some (.int x2)], [])) (S' := []) (h' := (jXt cx (jY f g n b l t), z)) rfl).trans (jev_ite.trans (jite_congr (fun _ => ?_) (fun _ => ?_)))
  · rfl
  · refine (jev_blk 3 (pc' := 39) (L' := ([some (.ref 79), some (.int x1), some (.int x2)], [])) (S' := [.int x2, .int 1, .ref 79]) (h' := (jXt cx (jY f g n b l t), z)) rfl).trans ?_
    exact jev_callb (nx := 40) (rest := []) rfl
set_option maxRecDepth 20000 in
theorem E_m_clash_61 {D : Nat}  {x1 : Int32} {x2 : Int32} {cx : jCX} {f : Nat → Int32} {g : Nat → Nat → Int32} {n : Nat → Nat → Int64} {b : Nat → Nat → Int32} {l : Nat → Int64} {t : List jE} {z : Nat × Nat × Nat × (Nat → Int32)}  : K_m_clash_61 D x1 x2 cx f g n b l t z = K_m_clash_25 D x1 (x2 + 1) cx f g n b l t z := by
  exact jev_blk 2 rfl
set_option maxRecDepth 20000 in
theorem E_m_clash_66 {D : Nat}  {x1 : Int32} {d2 : Option Value} {cx : jCX} {f : Nat → Int32} {g : Nat → Nat → Int32} {n : Nat → Nat → Int64} {b : Nat → Nat → Int32} {l : Nat → Int64} {t : List jE} {z : Nat × Nat × Nat × (Nat → Int32)}  : jev D 218 66 ([some (.ref 79), some (.int x1), d2], []) [] (jXt cx (jY f g n b l t), z) = K_m_clash_14 D x1 d2 cx f g n b l t z := by
  exact jev_blk 1 rfl
set_option maxRecDepth 20000 in
theorem E_m_clash_40 {D : Nat}  {x1 : Int32} {x2 : Int32} {u0 : Int32} {cx : jCX} {f : Nat → Int32} {g : Nat → Nat → Int32} {n : Nat → Nat → Int64} {b : Nat → Nat → Int32} {l : Nat → Int64} {t : List jE} {z : Nat × Nat × Nat × (Nat → Int32)}  : jev D 218 40 ([some (.ref 79), some (.int x1), some (.int x2)], []) [.int u0] (jXt cx (jY f g n b l t), z) = if u0 = 0 then (if jout (6 + x2) 138 then none else (if (g 22 (6 + x2).toNatClampNeg) < (g 1 4) then (K_m_clash_61 D x1 x2 cx f g n b l t z) else (if x1 = 0 then (some (.inl (some (.int (g 15 1))), (jXt cx (jY f g n b l t), z))) else (some (.inl (some (.int x2)), (jXt cx (jY f g n b l t), z)))))) else (K_m_clash_61 D x1 x2 cx f g n b l t z) := by
  refine (jev_blk 1 (pc' := if u0 = 0 then 41 else 61) (L' := ([some (.ref 79), some (.int x1), some (.int x2)], [])) (S' := []) (h' := (jXt cx (jY f g n b l t), z)) rfl).trans (jev_ite.trans (jite_congr (fun _ => ?_) (fun _ => ?_)))
  · refine (jev_blk 5 (pc' := 46) (L' := ([some (.ref 79), some (.int x1), some (.int x2)], [])) (S' := [.int (6 + x2), .ref 104]) (h' := (jXt cx (jY f g n b l t), z)) rfl).trans ?_
    refine (jev_grd (q := jout (6 + x2) 138) (pc' := 47) (L' := ([some (.ref 79), some (.int x1), some (.int x2)], [])) (S' := [.int (g 22 (6 + x2).toNatClampNeg)]) (h' := (jXt cx (jY f g n b l t), z)) rfl).trans (jite_congr (fun _ => rfl) (fun _ => ?_))
    refine (jev_blk 5 (pc' := if (g 22 (6 + x2).toNatClampNeg) < (g 1 4) then 61 else 52) (L' := ([some (.ref 79), some (.int x1), some (.int x2)], [])) (S' := []) (h' := (jXt cx (jY f g n b l t), z)) rfl).trans (jev_ite.trans (jite_congr (fun _ => ?_) (fun _ => ?_)))
    · rfl
    · refine (jev_blk 2 (pc' := if x1 = 0 then 54 else 59) (L' := ([some (.ref 79), some (.int x1), some (.int x2)], [])) (S' := []) (h' := (jXt cx (jY f g n b l t), z)) rfl).trans (jev_ite.trans (jite_congr (fun _ => ?_) (fun _ => ?_)))
      · refine (jev_blk 5 (pc' := 60) (L' := ([some (.ref 79), some (.int x1), some (.int x2)], [])) (S' := [.int (g 15 1)]) (h' := (jXt cx (jY f g n b l t), z)) rfl).trans ?_
        exact jev_fin rfl
      · refine (jev_blk 1 (pc' := 60) (L' := ([some (.ref 79), some (.int x1), some (.int x2)], [])) (S' := [.int x2]) (h' := (jXt cx (jY f g n b l t), z)) rfl).trans ?_
        exact jev_fin rfl
  · rfl
set_option maxRecDepth 20000 in
theorem E_m_bitsOf {D : Nat}  {a0 : Int32} {cx : jCX} {f : Nat → Int32} {g : Nat → Nat → Int32} {n : Nat → Nat → Int64} {b : Nat → Nat → Int32} {l : Nat → Int64} {t : List jE} {z : Nat × Nat × Nat × (Nat → Int32)}  : K_m_bitsOf D a0 cx f g n b l t z = K_m_bitsOf_4 D a0 0 0 cx f g n b l t z := by
  exact jev_blk 4 rfl
set_option maxRecDepth 20000 in
theorem L_m_bitsOf_4 {D : Nat}  {x0 : Int32} {x1 : Int32} {x2 : Int32} {cx : jCX} {f : Nat → Int32} {g : Nat → Nat → Int32} {n : Nat → Nat → Int64} {b : Nat → Nat → Int32} {l : Nat → Int64} {t : List jE} {z : Nat × Nat × Nat × (Nat → Int32)}  : K_m_bitsOf_4 D x0 x1 x2 cx f g n b l t z = if x2 < 30 then (K_m_bitsOf_4 D x0 (x1 + ((x0 >>> (x2 &&& 31)) &&& 1)) (x2 + 1) cx f g n b l t z) else (some (.inl (some (.int x1)), (jXt cx (jY f g n b l t), z))) := by
  refine (jev_blk 3 (pc' := if x2 < 30 then 7 else 17) (L' := ([some (.int x0), some (.int x1), some (.int x2)], [])) (S' := []) (h' := (jXt cx (jY f g n b l t), z)) rfl).trans (jev_ite.trans (jite_congr (fun _ => ?_) (fun _ => ?_)))
  · exact jev_blk 10 rfl
  · refine (jev_blk 1 (pc' := 18) (L' := ([some (.int x0), some (.int x1), some (.int x2)], [])) (S' := [.int x1]) (h' := (jXt cx (jY f g n b l t), z)) rfl).trans ?_
    exact jev_fin rfl
set_option maxRecDepth 20000 in
theorem E_m_layKeeping {D : Nat}  {a0 : Int32} {a1 : Int32} {cx : jCX} {f : Nat → Int32} {g : Nat → Nat → Int32} {n : Nat → Nat → Int64} {b : Nat → Nat → Int32} {l : Nat → Int64} {t : List jE} {z : Nat × Nat × Nat × (Nat → Int32)}  : K_m_layKeeping D a0 a1 cx f g n b l t z = K_m_layKeeping_12 D a0 a1 (if (g 1 4) < 3 then (g 1 4) else 3) 0 none cx (jup f 21 ((-1))) g n b l t z := by
  refine (jev_blk 8 (pc' := 8) (L' := ([some (.ref 79), some (.int a0), some (.int a1), none, none, none], [])) (S' := [.int (g 1 4), .int 3]) (h' := (jXt cx (jY (jup f 21 ((-1))) g n b l t), z)) rfl).trans ?_
  refine (jev_prim (a := 8) (As := [.int 3, .int (g 1 4)]) (nx := 9) (rest := []) rfl (r := some (.int (if (g 1 4) < 3 then (g 1 4) else 3))) (h' := (jXt cx (jY (jup f 21 ((-1))) g n b l t), z)) rfl).trans ?_
  exact jev_blk 3 rfl
set_option maxRecDepth 20000 in
theorem L_m_layKeeping_12 {D : Nat}  {x1 : Int32} {x2 : Int32} {x3 : Int32} {x4 : Int32} {d5 : Option Value} {cx : jCX} {f : Nat → Int32} {g : Nat → Nat → Int32} {n : Nat → Nat → Int64} {b : Nat → Nat → Int32} {l : Nat → Int64} {t : List jE} {z : Nat × Nat × Nat × (Nat → Int32)}  : K_m_layKeeping_12 D x1 x2 x3 x4 d5 cx f g n b l t z = if x4 < 4096 then (jbO (K_m_bitsOf D x4 cx f g n b l t z) (jk D 220 17 ([some (.ref 79), some (.int x1), some (.int x2), some (.int x3), some (.int x4), d5], []) [])) else (some (.inl (none), (jXt cx (jY f g n b l t), z))) := by
  refine (jev_blk 3 (pc' := if x4 < 4096 then 15 else 71) (L' := ([some (.ref 79), some (.int x1), some (.int x2), some (.int x3), some (.int x4), d5], [])) (S' := []) (h' := (jXt cx (jY f g n b l t), z)) rfl).trans (jev_ite.trans (jite_congr (fun _ => ?_) (fun _ => ?_)))
  · refine (jev_blk 1 (pc' := 16) (L' := ([some (.ref 79), some (.int x1), some (.int x2), some (.int x3), some (.int x4), d5], [])) (S' := [.int x4]) (h' := (jXt cx (jY f g n b l t), z)) rfl).trans ?_
    exact jev_callb (nx := 17) (rest := []) rfl
  · exact jev_fin rfl
set_option maxRecDepth 20000 in
theorem E_m_layKeeping_17 {D : Nat}  {x1 : Int32} {x2 : Int32} {x3 : Int32} {x4 : Int32} {d5 : Option Value} {u0 : Int32} {cx : jCX} {f : Nat → Int32} {g : Nat → Nat → Int32} {n : Nat → Nat → Int64} {b : Nat → Nat → Int32} {l : Nat → Int64} {t : List jE} {z : Nat × Nat × Nat × (Nat → Int32)}  : jev D 220 17 ([some (.ref 79), some (.int x1), some (.int x2), some (.int x3), some (.int x4), d5], []) [.int u0] (jXt cx (jY f g n b l t), z) = if x3 < u0 then (K_m_layKeeping_69 D x1 x2 x3 x4 d5 cx f g n b l t z) else (jbO (K_m_copies D 1 0 cx f g n b l t z) (jk D 220 24 ([some (.ref 79), some (.int x1), some (.int x2), some (.int x3), some (.int x4), d5], []) [])) := by
  refine (jev_blk 2 (pc' := if x3 < u0 then 19 else 20) (L' := ([some (.ref 79), some (.int x1), some (.int x2), some (.int x3), some (.int x4), d5], [])) (S' := []) (h' := (jXt cx (jY f g n b l t), z)) rfl).trans (jev_ite.trans (jite_congr (fun _ => ?_) (fun _ => ?_)))
  · exact jev_blk 1 rfl
  · refine (jev_blk 3 (pc' := 23) (L' := ([some (.ref 79), some (.int x1), some (.int x2), some (.int x3), some (.int x4), d5], [])) (S' := [.int 0, .int 1, .ref 79]) (h' := (jXt cx (jY f g n b l t), z)) rfl).trans ?_
    exact jev_callb (nx := 24) (rest := []) rfl
set_option maxRecDepth 20000 in
theorem E_m_layKeeping_69 {D : Nat}  {x1 : Int32} {x2 : Int32} {x3 : Int32} {x4 : Int32} {d5 : Option Value} {cx : jCX} {f : Nat → Int32} {g : Nat → Nat → Int32} {n : Nat → Nat → Int64} {b : Nat → Nat → Int32} {l : Nat → Int64} {t : List jE} {z : Nat × Nat × Nat × (Nat → Int32)}  : K_m_layKeeping_69 D x1 x2 x3 x4 d5 cx f g n b l t z = K_m_layKeeping_12 D x1 x2 x3 (x4 + 1) d5 cx f g n b l t z := by
  exact jev_blk 2 rfl
set_option maxRecDepth 20000 in
theorem E_m_layKeeping_24 {D : Nat}  {x1 : Int32} {x2 : Int32} {x3 : Int32} {x4 : Int32} {d5 : Option Value} {cx : jCX} {f : Nat → Int32} {g : Nat → Nat → Int32} {n : Nat → Nat → Int64} {b : Nat → Nat → Int32} {l : Nat → Int64} {t : List jE} {z : Nat × Nat × Nat × (Nat → Int32)}  : jev D 220 24 ([some (.ref 79), some (.int x1), some (.int x2), some (.int x3), some (.int x4), d5], []) [] (jXt cx (jY f g n b l t), z) = jev D 220 30 ([some (.ref 79), some (.int x1), some (.int x2), some (.int x3), some (.int x4), d5], []) [.int x4, .int (6 + x1), .ref 105] (jXt cx (jY f g n b l t), z) := by
  exact jev_blk 6 rfl
set_option maxRecDepth 20000 in
theorem E_m_layKeeping_30 {D : Nat}  {x1 : Int32} {x2 : Int32} {x3 : Int32} {x4 : Int32} {d5 : Option Value} {u0 : Int32} {u1 : Int32} {cx : jCX} {f : Nat → Int32} {g : Nat → Nat → Int32} {n : Nat → Nat → Int64} {b : Nat → Nat → Int32} {l : Nat → Int64} {t : List jE} {z : Nat × Nat × Nat × (Nat → Int32)}  : jev D 220 30 ([some (.ref 79), some (.int x1), some (.int x2), some (.int x3), some (.int x4), d5], []) [.int u0, .int u1, .ref 105] (jXt cx (jY f g n b l t), z) = if jout u1 138 then none else (jbO (K_m_runs D x2 cx f (jup g 23 ((jup (g 23) (u1.toNatClampNeg) u0))) n b l t z) (jk D 220 34 ([some (.ref 79), some (.int x1), some (.int x2), some (.int x3), some (.int x4), d5], []) [])) := by
  refine (jev_grd (q := jout u1 138) (pc' := 31) (L' := ([some (.ref 79), some (.int x1), some (.int x2), some (.int x3), some (.int x4), d5], [])) (S' := []) (h' := (jXt cx (jY f (jup g 23 ((jup (g 23) (u1.toNatClampNeg) u0))) n b l t), z)) rfl).trans (jite_congr (fun _ => rfl) (fun _ => ?_))
  refine (jev_blk 2 (pc' := 33) (L' := ([some (.ref 79), some (.int x1), some (.int x2), some (.int x3), some (.int x4), d5], [])) (S' := [.int x2, .ref 79]) (h' := (jXt cx (jY f (jup g 23 ((jup (g 23) (u1.toNatClampNeg) u0))) n b l t), z)) rfl).trans ?_
  exact jev_callb (nx := 34) (rest := []) rfl
set_option maxRecDepth 20000 in
theorem E_m_layKeeping_34 {D : Nat}  {x1 : Int32} {x2 : Int32} {x3 : Int32} {x4 : Int32} {d5 : Option Value} {cx : jCX} {f : Nat → Int32} {g : Nat → Nat → Int32} {n : Nat → Nat → Int64} {b : Nat → Nat → Int32} {l : Nat → Int64} {t : List jE} {z : Nat × Nat × Nat × (Nat → Int32)}  : jev D 220 34 ([some (.ref 79), some (.int x1), some (.int x2), some (.int x3), some (.int x4), d5], []) [] (jXt cx (jY f g n b l t), z) = if (f 21) = (-1) then (K_m_layKeeping_63 D x1 x2 x3 x4 ((g 16 1) - (g 16 0)) cx f g n b l t z) else (if (f 22) < ((g 16 1) - (g 16 0)) then (K_m_layKeeping_69 D x1 x2 x3 x4 (some (.int ((g 16 1) - (g 16 0)))) cx f g n b l t z) else (if ((g 16 1) - (g 16 0)) = (f 22) then (jbO (K_m_bitsOf D x4 cx f g n b l t z) (jk D 220 58 ([some (.ref 79), some (.int x1), some (.int x2), some (.int x3), some (.int x4), some (.int ((g 16 1) - (g 16 0)))], []) [])) else (K_m_layKeeping_63 D x1 x2 x3 x4 ((g 16 1) - (g 16 0)) cx f g n b l t z))) := by
  refine (jev_blk 14 (pc' := if (f 21) = (-1) then 63 else 48) (L' := ([some (.ref 79), some (.int x1), some (.int x2), some (.int x3), some (.int x4), some (.int ((g 16 1) - (g 16 0)))], [])) (S' := []) (h' := (jXt cx (jY f g n b l t), z)) rfl).trans (jev_ite.trans (jite_congr (fun _ => ?_) (fun _ => ?_)))
  · rfl
  · refine (jev_blk 4 (pc' := if (f 22) < ((g 16 1) - (g 16 0)) then 69 else 52) (L' := ([some (.ref 79), some (.int x1), some (.int x2), some (.int x3), some (.int x4), some (.int ((g 16 1) - (g 16 0)))], [])) (S' := []) (h' := (jXt cx (jY f g n b l t), z)) rfl).trans (jev_ite.trans (jite_congr (fun _ => ?_) (fun _ => ?_)))
    · rfl
    · refine (jev_blk 4 (pc' := if ((g 16 1) - (g 16 0)) = (f 22) then 56 else 63) (L' := ([some (.ref 79), some (.int x1), some (.int x2), some (.int x3), some (.int x4), some (.int ((g 16 1) - (g 16 0)))], [])) (S' := []) (h' := (jXt cx (jY f g n b l t), z)) rfl).trans (jev_ite.trans (jite_congr (fun _ => ?_) (fun _ => ?_)))
      · refine (jev_blk 1 (pc' := 57) (L' := ([some (.ref 79), some (.int x1), some (.int x2), some (.int x3), some (.int x4), some (.int ((g 16 1) - (g 16 0)))], [])) (S' := [.int x4]) (h' := (jXt cx (jY f g n b l t), z)) rfl).trans ?_
        exact jev_callb (nx := 58) (rest := []) rfl
      · rfl
set_option maxRecDepth 20000 in
theorem E_m_layKeeping_63 {D : Nat}  {x1 : Int32} {x2 : Int32} {x3 : Int32} {x4 : Int32} {x5 : Int32} {cx : jCX} {f : Nat → Int32} {g : Nat → Nat → Int32} {n : Nat → Nat → Int64} {b : Nat → Nat → Int32} {l : Nat → Int64} {t : List jE} {z : Nat × Nat × Nat × (Nat → Int32)}  : K_m_layKeeping_63 D x1 x2 x3 x4 x5 cx f g n b l t z = K_m_layKeeping_69 D x1 x2 x3 x4 (some (.int x5)) cx (jup (jup f 21 (x4)) 22 (x5)) g n b l t z := by
  exact jev_blk 6 rfl
set_option maxRecDepth 20000 in
theorem E_m_layKeeping_58 {D : Nat}  {x1 : Int32} {x2 : Int32} {x3 : Int32} {x4 : Int32} {x5 : Int32} {u0 : Int32} {cx : jCX} {f : Nat → Int32} {g : Nat → Nat → Int32} {n : Nat → Nat → Int64} {b : Nat → Nat → Int32} {l : Nat → Int64} {t : List jE} {z : Nat × Nat × Nat × (Nat → Int32)}  : jev D 220 58 ([some (.ref 79), some (.int x1), some (.int x2), some (.int x3), some (.int x4), some (.int x5)], []) [.int u0] (jXt cx (jY f g n b l t), z) = jbO (K_m_bitsOf D (f 21) cx f g n b l t z) (jk D 220 61 ([some (.ref 79), some (.int x1), some (.int x2), some (.int x3), some (.int x4), some (.int x5)], []) [.int u0]) := by
  refine (jev_blk 2 (pc' := 60) (L' := ([some (.ref 79), some (.int x1), some (.int x2), some (.int x3), some (.int x4), some (.int x5)], [])) (S' := [.int (f 21), .int u0]) (h' := (jXt cx (jY f g n b l t), z)) rfl).trans ?_
  exact jev_callb (nx := 61) (rest := [.int u0]) rfl
set_option maxRecDepth 20000 in
theorem E_m_layKeeping_61 {D : Nat}  {x1 : Int32} {x2 : Int32} {x3 : Int32} {x4 : Int32} {x5 : Int32} {u0 : Int32} {u1 : Int32} {cx : jCX} {f : Nat → Int32} {g : Nat → Nat → Int32} {n : Nat → Nat → Int64} {b : Nat → Nat → Int32} {l : Nat → Int64} {t : List jE} {z : Nat × Nat × Nat × (Nat → Int32)}  : jev D 220 61 ([some (.ref 79), some (.int x1), some (.int x2), some (.int x3), some (.int x4), some (.int x5)], []) [.int u0, .int u1] (jXt cx (jY f g n b l t), z) = if u1 < u0 then (K_m_layKeeping_63 D x1 x2 x3 x4 x5 cx f g n b l t z) else (K_m_layKeeping_69 D x1 x2 x3 x4 (some (.int x5)) cx f g n b l t z) := by
  refine (jev_blk 1 (pc' := if u1 < u0 then 63 else 62) (L' := ([some (.ref 79), some (.int x1), some (.int x2), some (.int x3), some (.int x4), some (.int x5)], [])) (S' := []) (h' := (jXt cx (jY f g n b l t), z)) rfl).trans (jev_ite.trans (jite_congr (fun _ => ?_) (fun _ => ?_)))
  · rfl
  · exact jev_blk 1 rfl
set_option maxRecDepth 20000 in
theorem E_m_keeping {D : Nat}  {a0 : Int32} {a1 : Int32} {a2 : Int32} {cx : jCX} {f : Nat → Int32} {g : Nat → Nat → Int32} {n : Nat → Nat → Int64} {b : Nat → Nat → Int32} {l : Nat → Int64} {t : List jE} {z : Nat × Nat × Nat × (Nat → Int32)}  : K_m_keeping D a0 a1 a2 cx f g n b l t z = jbO (K_m_isScare D a0 cx (jup f 0 (0)) g n b l t z) (jk D 221 6 ([some (.ref 79), some (.int a0), some (.int a1), some (.int a2)], []) []) := by
  refine (jev_blk 5 (pc' := 5) (L' := ([some (.ref 79), some (.int a0), some (.int a1), some (.int a2)], [])) (S' := [.int a0, .ref 79]) (h' := (jXt cx (jY (jup f 0 (0)) g n b l t), z)) rfl).trans ?_
  exact jev_callb (nx := 6) (rest := []) rfl
set_option maxRecDepth 20000 in
theorem E_m_keeping_6 {D : Nat}  {x1 : Int32} {x2 : Int32} {x3 : Int32} {u0 : Int32} {cx : jCX} {f : Nat → Int32} {g : Nat → Nat → Int32} {n : Nat → Nat → Int64} {b : Nat → Nat → Int32} {l : Nat → Int64} {t : List jE} {z : Nat × Nat × Nat × (Nat → Int32)}  : jev D 221 6 ([some (.ref 79), some (.int x1), some (.int x2), some (.int x3)], []) [.int u0] (jXt cx (jY f g n b l t), z) = if u0 = 0 then (some (.inl (some (.int (-1))), (jXt cx (jY f g n b l t), z))) else (if x2 < 1 then (some (.inl (some (.int (-1))), (jXt cx (jY f g n b l t), z))) else (if 3 < x2 then (some (.inl (some (.int (-1))), (jXt cx (jY f g n b l t), z))) else (if x3 < 0 then (some (.inl (some (.int (-1))), (jXt cx (jY f g n b l t), z))) else (if 1 < x3 then (some (.inl (some (.int (-1))), (jXt cx (jY f g n b l t), z))) else (jbO (K_m_layKeeping D x1 x2 cx f g n b l t z) (jk D 221 24 ([some (.ref 79), some (.int x1), some (.int x2), some (.int x3)], []) [])))))) := by
  refine (jev_blk 1 (pc' := if u0 = 0 then 18 else 7) (L' := ([some (.ref 79), some (.int x1), some (.int x2), some (.int x3)], [])) (S' := []) (h' := (jXt cx (jY f g n b l t), z)) rfl).trans (jev_ite.trans (jite_congr (fun _ => ?_) (fun _ => ?_)))
  · refine (jev_blk 1 (pc' := 19) (L' := ([some (.ref 79), some (.int x1), some (.int x2), some (.int x3)], [])) (S' := [.int (-1)]) (h' := (jXt cx (jY f g n b l t), z)) rfl).trans ?_
    exact jev_fin rfl
  · refine (jev_blk 3 (pc' := if x2 < 1 then 18 else 10) (L' := ([some (.ref 79), some (.int x1), some (.int x2), some (.int x3)], [])) (S' := []) (h' := (jXt cx (jY f g n b l t), z)) rfl).trans (jev_ite.trans (jite_congr (fun _ => ?_) (fun _ => ?_)))
    · refine (jev_blk 1 (pc' := 19) (L' := ([some (.ref 79), some (.int x1), some (.int x2), some (.int x3)], [])) (S' := [.int (-1)]) (h' := (jXt cx (jY f g n b l t), z)) rfl).trans ?_
      exact jev_fin rfl
    · refine (jev_blk 3 (pc' := if 3 < x2 then 18 else 13) (L' := ([some (.ref 79), some (.int x1), some (.int x2), some (.int x3)], [])) (S' := []) (h' := (jXt cx (jY f g n b l t), z)) rfl).trans (jev_ite.trans (jite_congr (fun _ => ?_) (fun _ => ?_)))
      · refine (jev_blk 1 (pc' := 19) (L' := ([some (.ref 79), some (.int x1), some (.int x2), some (.int x3)], [])) (S' := [.int (-1)]) (h' := (jXt cx (jY f g n b l t), z)) rfl).trans ?_
        exact jev_fin rfl
      · refine (jev_blk 2 (pc' := if x3 < 0 then 18 else 15) (L' := ([some (.ref 79), some (.int x1), some (.int x2), some (.int x3)], [])) (S' := []) (h' := (jXt cx (jY f g n b l t), z)) rfl).trans (jev_ite.trans (jite_congr (fun _ => ?_) (fun _ => ?_)))
        · refine (jev_blk 1 (pc' := 19) (L' := ([some (.ref 79), some (.int x1), some (.int x2), some (.int x3)], [])) (S' := [.int (-1)]) (h' := (jXt cx (jY f g n b l t), z)) rfl).trans ?_
          exact jev_fin rfl
        · refine (jev_blk 3 (pc' := if 1 < x3 then 18 else 20) (L' := ([some (.ref 79), some (.int x1), some (.int x2), some (.int x3)], [])) (S' := []) (h' := (jXt cx (jY f g n b l t), z)) rfl).trans (jev_ite.trans (jite_congr (fun _ => ?_) (fun _ => ?_)))
          · refine (jev_blk 1 (pc' := 19) (L' := ([some (.ref 79), some (.int x1), some (.int x2), some (.int x3)], [])) (S' := [.int (-1)]) (h' := (jXt cx (jY f g n b l t), z)) rfl).trans ?_
            exact jev_fin rfl
          · refine (jev_blk 3 (pc' := 23) (L' := ([some (.ref 79), some (.int x1), some (.int x2), some (.int x3)], [])) (S' := [.int x2, .int x1, .ref 79]) (h' := (jXt cx (jY f g n b l t), z)) rfl).trans ?_
            exact jev_callb (nx := 24) (rest := []) rfl
set_option maxRecDepth 20000 in
theorem E_m_keeping_24 {D : Nat}  {d1 : Option Value} {d2 : Option Value} {x3 : Int32} {cx : jCX} {f : Nat → Int32} {g : Nat → Nat → Int32} {n : Nat → Nat → Int64} {b : Nat → Nat → Int32} {l : Nat → Int64} {t : List jE} {z : Nat × Nat × Nat × (Nat → Int32)}  : jev D 221 24 ([some (.ref 79), d1, d2, some (.int x3)], []) [] (jXt cx (jY f g n b l t), z) = if x3 = 0 then (some (.inl (some (.int (f 21))), (jXt cx (jY f g n b l t), z))) else (some (.inl (some (.int (f 22))), (jXt cx (jY f g n b l t), z))) := by
  refine (jev_blk 2 (pc' := if x3 = 0 then 26 else 29) (L' := ([some (.ref 79), d1, d2, some (.int x3)], [])) (S' := []) (h' := (jXt cx (jY f g n b l t), z)) rfl).trans (jev_ite.trans (jite_congr (fun _ => ?_) (fun _ => ?_)))
  · refine (jev_blk 3 (pc' := 31) (L' := ([some (.ref 79), d1, d2, some (.int x3)], [])) (S' := [.int (f 21)]) (h' := (jXt cx (jY f g n b l t), z)) rfl).trans ?_
    exact jev_fin rfl
  · refine (jev_blk 2 (pc' := 31) (L' := ([some (.ref 79), d1, d2, some (.int x3)], [])) (S' := [.int (f 22)]) (h' := (jXt cx (jY f g n b l t), z)) rfl).trans ?_
    exact jev_fin rfl
set_option maxRecDepth 20000 in
theorem E_m_allSeen {D : Nat}   {cx : jCX} {f : Nat → Int32} {g : Nat → Nat → Int32} {n : Nat → Nat → Int64} {b : Nat → Nat → Int32} {l : Nat → Int64} {t : List jE} {z : Nat × Nat × Nat × (Nat → Int32)}  : K_m_allSeen D cx f g n b l t z = K_m_allSeen_7 D 0 0 none none none cx (jup f 0 (0)) g n b l t z := by
  exact jev_blk 7 rfl
set_option maxRecDepth 20000 in
theorem L_m_allSeen_7 {D : Nat}  {x1 : Int32} {x2 : Int32} {d3 : Option Value} {d4 : Option Value} {d5 : Option Value} {cx : jCX} {f : Nat → Int32} {g : Nat → Nat → Int32} {n : Nat → Nat → Int64} {b : Nat → Nat → Int32} {l : Nat → Int64} {t : List jE} {z : Nat × Nat × Nat × (Nat → Int32)}  : K_m_allSeen_7 D x1 x2 d3 d4 d5 cx f g n b l t z = jbO (K_m_cells D cx f g n b l t z) (jk D 222 10 ([some (.ref 79), some (.int x1), some (.int x2), d3, d4, d5], []) [.int x2]) := by
  refine (jev_blk 2 (pc' := 9) (L' := ([some (.ref 79), some (.int x1), some (.int x2), d3, d4, d5], [])) (S' := [.ref 79, .int x2]) (h' := (jXt cx (jY f g n b l t), z)) rfl).trans ?_
  exact jev_callb (nx := 10) (rest := [.int x2]) rfl
set_option maxRecDepth 20000 in
theorem E_m_allSeen_10 {D : Nat}  {x1 : Int32} {x2 : Int32} {d3 : Option Value} {d4 : Option Value} {d5 : Option Value} {u0 : Int32} {u1 : Int32} {cx : jCX} {f : Nat → Int32} {g : Nat → Nat → Int32} {n : Nat → Nat → Int64} {b : Nat → Nat → Int32} {l : Nat → Int64} {t : List jE} {z : Nat × Nat × Nat × (Nat → Int32)}  : jev D 222 10 ([some (.ref 79), some (.int x1), some (.int x2), d3, d4, d5], []) [.int u0, .int u1] (jXt cx (jY f g n b l t), z) = if u1 < u0 then (if jout x2 690 then none else (if 0 < (g 20 x2.toNatClampNeg) then (K_m_allSeen_22 D (some (.int x1)) x2 d3 d4 d5 (1 <<< (x2 &&& 31)) x1 cx f g n b l t z) else (K_m_allSeen_22 D (some (.int x1)) x2 d3 d4 d5 0 x1 cx f g n b l t z))) else (K_m_allSeen_28 D x1 0 d3 d4 d5 cx f g n b l t z) := by
  refine (jev_blk 1 (pc' := if u1 < u0 then 11 else 26) (L' := ([some (.ref 79), some (.int x1), some (.int x2), d3, d4, d5], [])) (S' := []) (h' := (jXt cx (jY f g n b l t), z)) rfl).trans (jev_ite.trans (jite_congr (fun _ => ?_) (fun _ => ?_)))
  · refine (jev_blk 4 (pc' := 15) (L' := ([some (.ref 79), some (.int x1), some (.int x2), d3, d4, d5], [])) (S' := [.int x2, .ref 102, .int x1]) (h' := (jXt cx (jY f g n b l t), z)) rfl).trans ?_
    refine (jev_grd (q := jout x2 690) (pc' := 16) (L' := ([some (.ref 79), some (.int x1), some (.int x2), d3, d4, d5], [])) (S' := [.int (g 20 x2.toNatClampNeg), .int x1]) (h' := (jXt cx (jY f g n b l t), z)) rfl).trans (jite_congr (fun _ => rfl) (fun _ => ?_))
    refine (jev_blk 1 (pc' := if 0 < (g 20 x2.toNatClampNeg) then 17 else 21) (L' := ([some (.ref 79), some (.int x1), some (.int x2), d3, d4, d5], [])) (S' := [.int x1]) (h' := (jXt cx (jY f g n b l t), z)) rfl).trans (jev_ite.trans (jite_congr (fun _ => ?_) (fun _ => ?_)))
    · exact jev_blk 4 rfl
    · exact jev_blk 1 rfl
  · exact jev_blk 2 rfl
set_option maxRecDepth 20000 in
theorem E_m_allSeen_22 {D : Nat}  {d1 : Option Value} {x2 : Int32} {d3 : Option Value} {d4 : Option Value} {d5 : Option Value} {u0 : Int32} {u1 : Int32} {cx : jCX} {f : Nat → Int32} {g : Nat → Nat → Int32} {n : Nat → Nat → Int64} {b : Nat → Nat → Int32} {l : Nat → Int64} {t : List jE} {z : Nat × Nat × Nat × (Nat → Int32)}  : K_m_allSeen_22 D d1 x2 d3 d4 d5 u0 u1 cx f g n b l t z = K_m_allSeen_7 D (u1 ||| u0) (x2 + 1) d3 d4 d5 cx f g n b l t z := by
  exact jev_blk 4 rfl
set_option maxRecDepth 20000 in
theorem L_m_allSeen_28 {D : Nat}  {x1 : Int32} {x2 : Int32} {d3 : Option Value} {d4 : Option Value} {d5 : Option Value} {cx : jCX} {f : Nat → Int32} {g : Nat → Nat → Int32} {n : Nat → Nat → Int64} {b : Nat → Nat → Int32} {l : Nat → Int64} {t : List jE} {z : Nat × Nat × Nat × (Nat → Int32)}  : K_m_allSeen_28 D x1 x2 d3 d4 d5 cx f g n b l t z = if x2 < (g 1 2) then (if jout x2 6 then none else (K_m_allSeen_41 D x1 x2 0 d4 d5 cx f (jup g 26 ((jup (g 26) (x2.toNatClampNeg) 0))) n b l t z)) else (K_m_allSeen_71 D x1 (-2) 0 d4 d5 cx f g n b l t z) := by
  refine (jev_blk 6 (pc' := if x2 < (g 1 2) then 34 else 67) (L' := ([some (.ref 79), some (.int x1), some (.int x2), d3, d4, d5], [])) (S' := []) (h' := (jXt cx (jY f g n b l t), z)) rfl).trans (jev_ite.trans (jite_congr (fun _ => ?_) (fun _ => ?_)))
  · refine (jev_blk 4 (pc' := 38) (L' := ([some (.ref 79), some (.int x1), some (.int x2), d3, d4, d5], [])) (S' := [.int 0, .int x2, .ref 108]) (h' := (jXt cx (jY f g n b l t), z)) rfl).trans ?_
    refine (jev_grd (q := jout x2 6) (pc' := 39) (L' := ([some (.ref 79), some (.int x1), some (.int x2), d3, d4, d5], [])) (S' := []) (h' := (jXt cx (jY f (jup g 26 ((jup (g 26) (x2.toNatClampNeg) 0))) n b l t), z)) rfl).trans (jite_congr (fun _ => rfl) (fun _ => ?_))
    exact jev_blk 2 rfl
  · exact jev_blk 4 rfl
set_option maxRecDepth 20000 in
theorem L_m_allSeen_41 {D : Nat}  {x1 : Int32} {x2 : Int32} {x3 : Int32} {d4 : Option Value} {d5 : Option Value} {cx : jCX} {f : Nat → Int32} {g : Nat → Nat → Int32} {n : Nat → Nat → Int64} {b : Nat → Nat → Int32} {l : Nat → Int64} {t : List jE} {z : Nat × Nat × Nat × (Nat → Int32)}  : K_m_allSeen_41 D x1 x2 x3 d4 d5 cx f g n b l t z = jbO (K_m_cells D cx f g n b l t z) (jk D 222 44 ([some (.ref 79), some (.int x1), some (.int x2), some (.int x3), d4, d5], []) [.int x3]) := by
  refine (jev_blk 2 (pc' := 43) (L' := ([some (.ref 79), some (.int x1), some (.int x2), some (.int x3), d4, d5], [])) (S' := [.ref 79, .int x3]) (h' := (jXt cx (jY f g n b l t), z)) rfl).trans ?_
  exact jev_callb (nx := 44) (rest := [.int x3]) rfl
set_option maxRecDepth 20000 in
theorem L_m_allSeen_71 {D : Nat}  {x1 : Int32} {x2 : Int32} {x3 : Int32} {d4 : Option Value} {d5 : Option Value} {cx : jCX} {f : Nat → Int32} {g : Nat → Nat → Int32} {n : Nat → Nat → Int64} {b : Nat → Nat → Int32} {l : Nat → Int64} {t : List jE} {z : Nat × Nat × Nat × (Nat → Int32)}  : K_m_allSeen_71 D x1 x2 x3 d4 d5 cx f g n b l t z = if x3 < (1 <<< ((g 1 2) &&& 31)) then (K_m_allSeen_83 D x1 x2 x3 0 0 cx f g n b l t z) else (some (.inl (some (.int x2)), (jXt cx (jY f g n b l t), z))) := by
  refine (jev_blk 8 (pc' := if x3 < (1 <<< ((g 1 2) &&& 31)) then 79 else 124) (L' := ([some (.ref 79), some (.int x1), some (.int x2), some (.int x3), d4, d5], [])) (S' := []) (h' := (jXt cx (jY f g n b l t), z)) rfl).trans (jev_ite.trans (jite_congr (fun _ => ?_) (fun _ => ?_)))
  · exact jev_blk 4 rfl
  · refine (jev_blk 1 (pc' := 125) (L' := ([some (.ref 79), some (.int x1), some (.int x2), some (.int x3), d4, d5], [])) (S' := [.int x2]) (h' := (jXt cx (jY f g n b l t), z)) rfl).trans ?_
    exact jev_fin rfl
set_option maxRecDepth 20000 in
theorem L_m_allSeen_83 {D : Nat}  {x1 : Int32} {x2 : Int32} {x3 : Int32} {x4 : Int32} {x5 : Int32} {cx : jCX} {f : Nat → Int32} {g : Nat → Nat → Int32} {n : Nat → Nat → Int64} {b : Nat → Nat → Int32} {l : Nat → Int64} {t : List jE} {z : Nat × Nat × Nat × (Nat → Int32)}  : K_m_allSeen_83 D x1 x2 x3 x4 x5 cx f g n b l t z = if x5 < (g 1 2) then (if ((x3 >>> (x5 &&& 31)) &&& 1) = 1 then (if jout x5 6 then none else (K_m_allSeen_103 D x1 x2 x3 (some (.int x4)) x5 (g 26 x5.toNatClampNeg) x4 cx f g n b l t z)) else (K_m_allSeen_103 D x1 x2 x3 (some (.int x4)) x5 0 x4 cx f g n b l t z)) else (if (x1 &&& (x4 ^^^ (-1))) = 0 then (if x2 < 0 then (K_m_allSeen_120 D x1 (some (.int x2)) x3 (some (.int x4)) (some (.int x5)) cx f g n b l t z) else (jbO (K_m_bitsOf D x3 cx f g n b l t z) (jk D 222 117 ([some (.ref 79), some (.int x1), some (.int x2), some (.int x3), some (.int x4), some (.int x5)], []) []))) else (K_m_allSeen_122 D x1 x2 x3 (some (.int x4)) (some (.int x5)) cx f g n b l t z)) := by
  refine (jev_blk 6 (pc' := if x5 < (g 1 2) then 89 else 107) (L' := ([some (.ref 79), some (.int x1), some (.int x2), some (.int x3), some (.int x4), some (.int x5)], [])) (S' := []) (h' := (jXt cx (jY f g n b l t), z)) rfl).trans (jev_ite.trans (jite_congr (fun _ => ?_) (fun _ => ?_)))
  · refine (jev_blk 8 (pc' := if ((x3 >>> (x5 &&& 31)) &&& 1) = 1 then 97 else 102) (L' := ([some (.ref 79), some (.int x1), some (.int x2), some (.int x3), some (.int x4), some (.int x5)], [])) (S' := [.int x4]) (h' := (jXt cx (jY f g n b l t), z)) rfl).trans (jev_ite.trans (jite_congr (fun _ => ?_) (fun _ => ?_)))
    · refine (jev_blk 3 (pc' := 100) (L' := ([some (.ref 79), some (.int x1), some (.int x2), some (.int x3), some (.int x4), some (.int x5)], [])) (S' := [.int x5, .ref 108, .int x4]) (h' := (jXt cx (jY f g n b l t), z)) rfl).trans ?_
      refine (jev_grd (q := jout x5 6) (pc' := 101) (L' := ([some (.ref 79), some (.int x1), some (.int x2), some (.int x3), some (.int x4), some (.int x5)], [])) (S' := [.int (g 26 x5.toNatClampNeg), .int x4]) (h' := (jXt cx (jY f g n b l t), z)) rfl).trans (jite_congr (fun _ => rfl) (fun _ => ?_))
      exact jev_blk 1 rfl
    · exact jev_blk 1 rfl
  · refine (jev_blk 6 (pc' := if (x1 &&& (x4 ^^^ (-1))) = 0 then 113 else 122) (L' := ([some (.ref 79), some (.int x1), some (.int x2), some (.int x3), some (.int x4), some (.int x5)], [])) (S' := []) (h' := (jXt cx (jY f g n b l t), z)) rfl).trans (jev_ite.trans (jite_congr (fun _ => ?_) (fun _ => ?_)))
    · refine (jev_blk 2 (pc' := if x2 < 0 then 120 else 115) (L' := ([some (.ref 79), some (.int x1), some (.int x2), some (.int x3), some (.int x4), some (.int x5)], [])) (S' := []) (h' := (jXt cx (jY f g n b l t), z)) rfl).trans (jev_ite.trans (jite_congr (fun _ => ?_) (fun _ => ?_)))
      · rfl
      · refine (jev_blk 1 (pc' := 116) (L' := ([some (.ref 79), some (.int x1), some (.int x2), some (.int x3), some (.int x4), some (.int x5)], [])) (S' := [.int x3]) (h' := (jXt cx (jY f g n b l t), z)) rfl).trans ?_
        exact jev_callb (nx := 117) (rest := []) rfl
    · rfl
set_option maxRecDepth 20000 in
theorem E_m_allSeen_103 {D : Nat}  {x1 : Int32} {x2 : Int32} {x3 : Int32} {d4 : Option Value} {x5 : Int32} {u0 : Int32} {u1 : Int32} {cx : jCX} {f : Nat → Int32} {g : Nat → Nat → Int32} {n : Nat → Nat → Int64} {b : Nat → Nat → Int32} {l : Nat → Int64} {t : List jE} {z : Nat × Nat × Nat × (Nat → Int32)}  : K_m_allSeen_103 D x1 x2 x3 d4 x5 u0 u1 cx f g n b l t z = K_m_allSeen_83 D x1 x2 x3 (u1 ||| u0) (x5 + 1) cx f g n b l t z := by
  exact jev_blk 4 rfl
set_option maxRecDepth 20000 in
theorem E_m_allSeen_120 {D : Nat}  {x1 : Int32} {d2 : Option Value} {x3 : Int32} {d4 : Option Value} {d5 : Option Value} {cx : jCX} {f : Nat → Int32} {g : Nat → Nat → Int32} {n : Nat → Nat → Int64} {b : Nat → Nat → Int32} {l : Nat → Int64} {t : List jE} {z : Nat × Nat × Nat × (Nat → Int32)}  : K_m_allSeen_120 D x1 d2 x3 d4 d5 cx f g n b l t z = K_m_allSeen_122 D x1 x3 x3 d4 d5 cx f g n b l t z := by
  exact jev_blk 2 rfl
set_option maxRecDepth 20000 in
theorem E_m_allSeen_122 {D : Nat}  {x1 : Int32} {x2 : Int32} {x3 : Int32} {d4 : Option Value} {d5 : Option Value} {cx : jCX} {f : Nat → Int32} {g : Nat → Nat → Int32} {n : Nat → Nat → Int64} {b : Nat → Nat → Int32} {l : Nat → Int64} {t : List jE} {z : Nat × Nat × Nat × (Nat → Int32)}  : K_m_allSeen_122 D x1 x2 x3 d4 d5 cx f g n b l t z = K_m_allSeen_71 D x1 x2 (x3 + 1) d4 d5 cx f g n b l t z := by
  exact jev_blk 2 rfl
set_option maxRecDepth 20000 in
theorem E_m_allSeen_44 {D : Nat}  {x1 : Int32} {x2 : Int32} {x3 : Int32} {d4 : Option Value} {d5 : Option Value} {u0 : Int32} {u1 : Int32} {cx : jCX} {f : Nat → Int32} {g : Nat → Nat → Int32} {n : Nat → Nat → Int64} {b : Nat → Nat → Int32} {l : Nat → Int64} {t : List jE} {z : Nat × Nat × Nat × (Nat → Int32)}  : jev D 222 44 ([some (.ref 79), some (.int x1), some (.int x2), some (.int x3), d4, d5], []) [.int u0, .int u1] (jXt cx (jY f g n b l t), z) = if u1 < u0 then (if jout x2 6 then none else (jbO (K_m_isSeen D 0 x2 x3 cx f g n b l t z) (jk D 222 55 ([some (.ref 79), some (.int x1), some (.int x2), some (.int x3), d4, d5], []) [.int (g 26 x2.toNatClampNeg), .int x2, .ref 108]))) else (K_m_allSeen_28 D x1 (x2 + 1) (some (.int x3)) d4 d5 cx f g n b l t z) := by
  refine (jev_blk 1 (pc' := if u1 < u0 then 45 else 65) (L' := ([some (.ref 79), some (.int x1), some (.int x2), some (.int x3), d4, d5], [])) (S' := []) (h' := (jXt cx (jY f g n b l t), z)) rfl).trans (jev_ite.trans (jite_congr (fun _ => ?_) (fun _ => ?_)))
  · refine (jev_blk 4 (pc' := 49) (L' := ([some (.ref 79), some (.int x1), some (.int x2), some (.int x3), d4, d5], [])) (S' := [.int x2, .ref 108, .int x2, .ref 108]) (h' := (jXt cx (jY f g n b l t), z)) rfl).trans ?_
    refine (jev_grd (q := jout x2 6) (pc' := 50) (L' := ([some (.ref 79), some (.int x1), some (.int x2), some (.int x3), d4, d5], [])) (S' := [.int (g 26 x2.toNatClampNeg), .int x2, .ref 108]) (h' := (jXt cx (jY f g n b l t), z)) rfl).trans (jite_congr (fun _ => rfl) (fun _ => ?_))
    refine (jev_blk 4 (pc' := 54) (L' := ([some (.ref 79), some (.int x1), some (.int x2), some (.int x3), d4, d5], [])) (S' := [.int x3, .int x2, .int 0, .ref 79, .int (g 26 x2.toNatClampNeg), .int x2, .ref 108]) (h' := (jXt cx (jY f g n b l t), z)) rfl).trans ?_
    exact jev_callb (nx := 55) (rest := [.int (g 26 x2.toNatClampNeg), .int x2, .ref 108]) rfl
  · exact jev_blk 2 rfl
set_option maxRecDepth 20000 in
theorem E_m_allSeen_117 {D : Nat}  {x1 : Int32} {x2 : Int32} {x3 : Int32} {d4 : Option Value} {d5 : Option Value} {u0 : Int32} {cx : jCX} {f : Nat → Int32} {g : Nat → Nat → Int32} {n : Nat → Nat → Int64} {b : Nat → Nat → Int32} {l : Nat → Int64} {t : List jE} {z : Nat × Nat × Nat × (Nat → Int32)}  : jev D 222 117 ([some (.ref 79), some (.int x1), some (.int x2), some (.int x3), d4, d5], []) [.int u0] (jXt cx (jY f g n b l t), z) = jbO (K_m_bitsOf D x2 cx f g n b l t z) (jk D 222 119 ([some (.ref 79), some (.int x1), some (.int x2), some (.int x3), d4, d5], []) [.int u0]) := by
  refine (jev_blk 1 (pc' := 118) (L' := ([some (.ref 79), some (.int x1), some (.int x2), some (.int x3), d4, d5], [])) (S' := [.int x2, .int u0]) (h' := (jXt cx (jY f g n b l t), z)) rfl).trans ?_
  exact jev_callb (nx := 119) (rest := [.int u0]) rfl
set_option maxRecDepth 20000 in
theorem E_m_allSeen_55 {D : Nat}  {x1 : Int32} {x2 : Int32} {x3 : Int32} {d4 : Option Value} {d5 : Option Value} {u0 : Int32} {u1 : Int32} {u2 : Int32} {cx : jCX} {f : Nat → Int32} {g : Nat → Nat → Int32} {n : Nat → Nat → Int64} {b : Nat → Nat → Int32} {l : Nat → Int64} {t : List jE} {z : Nat × Nat × Nat × (Nat → Int32)}  : jev D 222 55 ([some (.ref 79), some (.int x1), some (.int x2), some (.int x3), d4, d5], []) [.int u0, .int u1, .int u2, .ref 108] (jXt cx (jY f g n b l t), z) = if u0 = 0 then (K_m_allSeen_61 D x1 x2 x3 d4 d5 0 u1 u2 cx f g n b l t z) else (K_m_allSeen_61 D x1 x2 x3 d4 d5 (1 <<< (x3 &&& 31)) u1 u2 cx f g n b l t z) := by
  refine (jev_blk 1 (pc' := if u0 = 0 then 60 else 56) (L' := ([some (.ref 79), some (.int x1), some (.int x2), some (.int x3), d4, d5], [])) (S' := [.int u1, .int u2, .ref 108]) (h' := (jXt cx (jY f g n b l t), z)) rfl).trans (jev_ite.trans (jite_congr (fun _ => ?_) (fun _ => ?_)))
  · exact jev_blk 1 rfl
  · exact jev_blk 4 rfl
set_option maxRecDepth 20000 in
theorem E_m_allSeen_61 {D : Nat}  {x1 : Int32} {x2 : Int32} {x3 : Int32} {d4 : Option Value} {d5 : Option Value} {u0 : Int32} {u1 : Int32} {u2 : Int32} {cx : jCX} {f : Nat → Int32} {g : Nat → Nat → Int32} {n : Nat → Nat → Int64} {b : Nat → Nat → Int32} {l : Nat → Int64} {t : List jE} {z : Nat × Nat × Nat × (Nat → Int32)}  : K_m_allSeen_61 D x1 x2 x3 d4 d5 u0 u1 u2 cx f g n b l t z = if jout u2 6 then none else (K_m_allSeen_41 D x1 x2 (x3 + 1) d4 d5 cx f (jup g 26 ((jup (g 26) (u2.toNatClampNeg) (u1 ||| u0)))) n b l t z) := by
  refine (jev_blk 1 (pc' := 62) (L' := ([some (.ref 79), some (.int x1), some (.int x2), some (.int x3), d4, d5], [])) (S' := [.int (u1 ||| u0), .int u2, .ref 108]) (h' := (jXt cx (jY f g n b l t), z)) rfl).trans ?_
  refine (jev_grd (q := jout u2 6) (pc' := 63) (L' := ([some (.ref 79), some (.int x1), some (.int x2), some (.int x3), d4, d5], [])) (S' := []) (h' := (jXt cx (jY f (jup g 26 ((jup (g 26) (u2.toNatClampNeg) (u1 ||| u0)))) n b l t), z)) rfl).trans (jite_congr (fun _ => rfl) (fun _ => ?_))
  exact jev_blk 2 rfl
set_option maxRecDepth 20000 in
theorem E_m_allSeen_119 {D : Nat}  {x1 : Int32} {x2 : Int32} {x3 : Int32} {d4 : Option Value} {d5 : Option Value} {u0 : Int32} {u1 : Int32} {cx : jCX} {f : Nat → Int32} {g : Nat → Nat → Int32} {n : Nat → Nat → Int64} {b : Nat → Nat → Int32} {l : Nat → Int64} {t : List jE} {z : Nat × Nat × Nat × (Nat → Int32)}  : jev D 222 119 ([some (.ref 79), some (.int x1), some (.int x2), some (.int x3), d4, d5], []) [.int u0, .int u1] (jXt cx (jY f g n b l t), z) = if u1 < u0 then (K_m_allSeen_120 D x1 (some (.int x2)) x3 d4 d5 cx f g n b l t z) else (K_m_allSeen_122 D x1 x2 x3 d4 d5 cx f g n b l t z) := by
  refine (jev_blk 1 (pc' := if u1 < u0 then 120 else 122) (L' := ([some (.ref 79), some (.int x1), some (.int x2), some (.int x3), d4, d5], [])) (S' := []) (h' := (jXt cx (jY f g n b l t), z)) rfl).trans (jev_ite.trans (jite_congr (fun _ => ?_) (fun _ => ?_)))
  · rfl
  · rfl
set_option maxRecDepth 20000 in
theorem E_m_oneMore {D : Nat}  {a0 : Int32} {a1 : Int32} {cx : jCX} {f : Nat → Int32} {g : Nat → Nat → Int32} {n : Nat → Nat → Int64} {b : Nat → Nat → Int32} {l : Nat → Int64} {t : List jE} {z : Nat × Nat × Nat × (Nat → Int32)}  : K_m_oneMore D a0 a1 cx f g n b l t z = if a0 < 0 then (some (.inl (some (.int (-1))), (jXt cx (jY (jup f 0 (0)) g n b l t), z))) else (if 9 < a0 then (some (.inl (some (.int (-1))), (jXt cx (jY (jup f 0 (0)) g n b l t), z))) else (if a1 < 0 then (some (.inl (some (.int (-1))), (jXt cx (jY (jup f 0 (0)) g n b l t), z))) else (if 1 < a1 then (some (.inl (some (.int (-1))), (jXt cx (jY (jup f 0 (0)) g n b l t), z))) else (K_m_oneMore_19 D a0 a1 0 0 none none none none cx (jup f 0 (0)) g n b l t z)))) := by
  refine (jev_blk 5 (pc' := if a0 < 0 then 13 else 5) (L' := ([some (.ref 79), some (.int a0), some (.int a1), none, none, none, none, none, none], [])) (S' := []) (h' := (jXt cx (jY (jup f 0 (0)) g n b l t), z)) rfl).trans (jev_ite.trans (jite_congr (fun _ => ?_) (fun _ => ?_)))
  · refine (jev_blk 1 (pc' := 14) (L' := ([some (.ref 79), some (.int a0), some (.int a1), none, none, none, none, none, none], [])) (S' := [.int (-1)]) (h' := (jXt cx (jY (jup f 0 (0)) g n b l t), z)) rfl).trans ?_
    exact jev_fin rfl
  · refine (jev_blk 3 (pc' := if 9 < a0 then 13 else 8) (L' := ([some (.ref 79), some (.int a0), some (.int a1), none, none, none, none, none, none], [])) (S' := []) (h' := (jXt cx (jY (jup f 0 (0)) g n b l t), z)) rfl).trans (jev_ite.trans (jite_congr (fun _ => ?_) (fun _ => ?_)))
    · refine (jev_blk 1 (pc' := 14) (L' := ([some (.ref 79), some (.int a0), some (.int a1), none, none, none, none, none, none], [])) (S' := [.int (-1)]) (h' := (jXt cx (jY (jup f 0 (0)) g n b l t), z)) rfl).trans ?_
      exact jev_fin rfl
    · refine (jev_blk 2 (pc' := if a1 < 0 then 13 else 10) (L' := ([some (.ref 79), some (.int a0), some (.int a1), none, none, none, none, none, none], [])) (S' := []) (h' := (jXt cx (jY (jup f 0 (0)) g n b l t), z)) rfl).trans (jev_ite.trans (jite_congr (fun _ => ?_) (fun _ => ?_)))
      · refine (jev_blk 1 (pc' := 14) (L' := ([some (.ref 79), some (.int a0), some (.int a1), none, none, none, none, none, none], [])) (S' := [.int (-1)]) (h' := (jXt cx (jY (jup f 0 (0)) g n b l t), z)) rfl).trans ?_
        exact jev_fin rfl
      · refine (jev_blk 3 (pc' := if 1 < a1 then 13 else 15) (L' := ([some (.ref 79), some (.int a0), some (.int a1), none, none, none, none, none, none], [])) (S' := []) (h' := (jXt cx (jY (jup f 0 (0)) g n b l t), z)) rfl).trans (jev_ite.trans (jite_congr (fun _ => ?_) (fun _ => ?_)))
        · refine (jev_blk 1 (pc' := 14) (L' := ([some (.ref 79), some (.int a0), some (.int a1), none, none, none, none, none, none], [])) (S' := [.int (-1)]) (h' := (jXt cx (jY (jup f 0 (0)) g n b l t), z)) rfl).trans ?_
          exact jev_fin rfl
        · exact jev_blk 4 rfl
set_option maxRecDepth 20000 in
theorem L_m_oneMore_19 {D : Nat}  {x1 : Int32} {x2 : Int32} {x3 : Int32} {x4 : Int32} {d5 : Option Value} {d6 : Option Value} {d7 : Option Value} {d8 : Option Value} {cx : jCX} {f : Nat → Int32} {g : Nat → Nat → Int32} {n : Nat → Nat → Int64} {b : Nat → Nat → Int32} {l : Nat → Int64} {t : List jE} {z : Nat × Nat × Nat × (Nat → Int32)}  : K_m_oneMore_19 D x1 x2 x3 x4 d5 d6 d7 d8 cx f g n b l t z = if x4 < (g 1 2) then (K_m_oneMore_27 D x1 x2 x3 x4 0 d6 d7 d8 cx f g n b l t z) else (K_m_oneMore_60 D x1 x2 x3 (-1) 0 0 d7 d8 cx f g n b l t z) := by
  refine (jev_blk 6 (pc' := if x4 < (g 1 2) then 25 else 54) (L' := ([some (.ref 79), some (.int x1), some (.int x2), some (.int x3), some (.int x4), d5, d6, d7, d8], [])) (S' := []) (h' := (jXt cx (jY f g n b l t), z)) rfl).trans (jev_ite.trans (jite_congr (fun _ => ?_) (fun _ => ?_)))
  · exact jev_blk 2 rfl
  · exact jev_blk 6 rfl
set_option maxRecDepth 20000 in
theorem L_m_oneMore_27 {D : Nat}  {x1 : Int32} {x2 : Int32} {x3 : Int32} {x4 : Int32} {x5 : Int32} {d6 : Option Value} {d7 : Option Value} {d8 : Option Value} {cx : jCX} {f : Nat → Int32} {g : Nat → Nat → Int32} {n : Nat → Nat → Int64} {b : Nat → Nat → Int32} {l : Nat → Int64} {t : List jE} {z : Nat × Nat × Nat × (Nat → Int32)}  : K_m_oneMore_27 D x1 x2 x3 x4 x5 d6 d7 d8 cx f g n b l t z = jbO (K_m_cells D cx f g n b l t z) (jk D 223 30 ([some (.ref 79), some (.int x1), some (.int x2), some (.int x3), some (.int x4), some (.int x5), d6, d7, d8], []) [.int x5]) := by
  refine (jev_blk 2 (pc' := 29) (L' := ([some (.ref 79), some (.int x1), some (.int x2), some (.int x3), some (.int x4), some (.int x5), d6, d7, d8], [])) (S' := [.ref 79, .int x5]) (h' := (jXt cx (jY f g n b l t), z)) rfl).trans ?_
  exact jev_callb (nx := 30) (rest := [.int x5]) rfl
set_option maxRecDepth 20000 in
theorem L_m_oneMore_60 {D : Nat}  {x1 : Int32} {x2 : Int32} {x3 : Int32} {x4 : Int32} {x5 : Int32} {x6 : Int32} {d7 : Option Value} {d8 : Option Value} {cx : jCX} {f : Nat → Int32} {g : Nat → Nat → Int32} {n : Nat → Nat → Int64} {b : Nat → Nat → Int32} {l : Nat → Int64} {t : List jE} {z : Nat × Nat × Nat × (Nat → Int32)}  : K_m_oneMore_60 D x1 x2 x3 x4 x5 x6 d7 d8 cx f g n b l t z = jbO (K_m_cells D cx f g n b l t z) (jk D 223 63 ([some (.ref 79), some (.int x1), some (.int x2), some (.int x3), some (.int x4), some (.int x5), some (.int x6), d7, d8], []) [.int x6]) := by
  refine (jev_blk 2 (pc' := 62) (L' := ([some (.ref 79), some (.int x1), some (.int x2), some (.int x3), some (.int x4), some (.int x5), some (.int x6), d7, d8], [])) (S' := [.ref 79, .int x6]) (h' := (jXt cx (jY f g n b l t), z)) rfl).trans ?_
  exact jev_callb (nx := 63) (rest := [.int x6]) rfl
set_option maxRecDepth 20000 in
theorem E_m_oneMore_30 {D : Nat}  {x1 : Int32} {x2 : Int32} {x3 : Int32} {x4 : Int32} {x5 : Int32} {d6 : Option Value} {d7 : Option Value} {d8 : Option Value} {u0 : Int32} {u1 : Int32} {cx : jCX} {f : Nat → Int32} {g : Nat → Nat → Int32} {n : Nat → Nat → Int64} {b : Nat → Nat → Int32} {l : Nat → Int64} {t : List jE} {z : Nat × Nat × Nat × (Nat → Int32)}  : jev D 223 30 ([some (.ref 79), some (.int x1), some (.int x2), some (.int x3), some (.int x4), some (.int x5), d6, d7, d8], []) [.int u0, .int u1] (jXt cx (jY f g n b l t), z) = if u1 < u0 then (jbO (K_m_isOnRota D 0 x4 cx f g n b l t z) (jk D 223 35 ([some (.ref 79), some (.int x1), some (.int x2), some (.int x3), some (.int x4), some (.int x5), d6, d7, d8], []) [])) else (K_m_oneMore_52 D x1 x2 x3 x4 (some (.int x5)) d6 d7 d8 cx f g n b l t z) := by
  refine (jev_blk 1 (pc' := if u1 < u0 then 31 else 52) (L' := ([some (.ref 79), some (.int x1), some (.int x2), some (.int x3), some (.int x4), some (.int x5), d6, d7, d8], [])) (S' := []) (h' := (jXt cx (jY f g n b l t), z)) rfl).trans (jev_ite.trans (jite_congr (fun _ => ?_) (fun _ => ?_)))
  · refine (jev_blk 3 (pc' := 34) (L' := ([some (.ref 79), some (.int x1), some (.int x2), some (.int x3), some (.int x4), some (.int x5), d6, d7, d8], [])) (S' := [.int x4, .int 0, .ref 79]) (h' := (jXt cx (jY f g n b l t), z)) rfl).trans ?_
    exact jev_callb (nx := 35) (rest := []) rfl
  · rfl
set_option maxRecDepth 20000 in
theorem E_m_oneMore_52 {D : Nat}  {x1 : Int32} {x2 : Int32} {x3 : Int32} {x4 : Int32} {d5 : Option Value} {d6 : Option Value} {d7 : Option Value} {d8 : Option Value} {cx : jCX} {f : Nat → Int32} {g : Nat → Nat → Int32} {n : Nat → Nat → Int64} {b : Nat → Nat → Int32} {l : Nat → Int64} {t : List jE} {z : Nat × Nat × Nat × (Nat → Int32)}  : K_m_oneMore_52 D x1 x2 x3 x4 d5 d6 d7 d8 cx f g n b l t z = K_m_oneMore_19 D x1 x2 x3 (x4 + 1) d5 d6 d7 d8 cx f g n b l t z := by
  exact jev_blk 2 rfl
set_option maxRecDepth 20000 in
theorem E_m_oneMore_63 {D : Nat}  {x1 : Int32} {x2 : Int32} {x3 : Int32} {x4 : Int32} {x5 : Int32} {x6 : Int32} {d7 : Option Value} {d8 : Option Value} {u0 : Int32} {u1 : Int32} {cx : jCX} {f : Nat → Int32} {g : Nat → Nat → Int32} {n : Nat → Nat → Int64} {b : Nat → Nat → Int32} {l : Nat → Int64} {t : List jE} {z : Nat × Nat × Nat × (Nat → Int32)}  : jev D 223 63 ([some (.ref 79), some (.int x1), some (.int x2), some (.int x3), some (.int x4), some (.int x5), some (.int x6), d7, d8], []) [.int u0, .int u1] (jXt cx (jY f g n b l t), z) = if u1 < u0 then (K_m_oneMore_68 D x1 x2 x3 x4 x5 x6 0 0 cx f g n b l t z) else (if x2 = 0 then (some (.inl (some (.int x4)), (jXt cx (jY f g n b l t), z))) else (some (.inl (some (.int x5)), (jXt cx (jY f g n b l t), z)))) := by
  refine (jev_blk 1 (pc' := if u1 < u0 then 64 else 110) (L' := ([some (.ref 79), some (.int x1), some (.int x2), some (.int x3), some (.int x4), some (.int x5), some (.int x6), d7, d8], [])) (S' := []) (h' := (jXt cx (jY f g n b l t), z)) rfl).trans (jev_ite.trans (jite_congr (fun _ => ?_) (fun _ => ?_)))
  · exact jev_blk 4 rfl
  · refine (jev_blk 2 (pc' := if x2 = 0 then 112 else 114) (L' := ([some (.ref 79), some (.int x1), some (.int x2), some (.int x3), some (.int x4), some (.int x5), some (.int x6), d7, d8], [])) (S' := []) (h' := (jXt cx (jY f g n b l t), z)) rfl).trans (jev_ite.trans (jite_congr (fun _ => ?_) (fun _ => ?_)))
    · refine (jev_blk 2 (pc' := 115) (L' := ([some (.ref 79), some (.int x1), some (.int x2), some (.int x3), some (.int x4), some (.int x5), some (.int x6), d7, d8], [])) (S' := [.int x4]) (h' := (jXt cx (jY f g n b l t), z)) rfl).trans ?_
      exact jev_fin rfl
    · refine (jev_blk 1 (pc' := 115) (L' := ([some (.ref 79), some (.int x1), some (.int x2), some (.int x3), some (.int x4), some (.int x5), some (.int x6), d7, d8], [])) (S' := [.int x5]) (h' := (jXt cx (jY f g n b l t), z)) rfl).trans ?_
      exact jev_fin rfl
set_option maxRecDepth 20000 in
theorem L_m_oneMore_68 {D : Nat}  {x1 : Int32} {x2 : Int32} {x3 : Int32} {x4 : Int32} {x5 : Int32} {x6 : Int32} {x7 : Int32} {x8 : Int32} {cx : jCX} {f : Nat → Int32} {g : Nat → Nat → Int32} {n : Nat → Nat → Int64} {b : Nat → Nat → Int32} {l : Nat → Int64} {t : List jE} {z : Nat × Nat × Nat × (Nat → Int32)}  : K_m_oneMore_68 D x1 x2 x3 x4 x5 x6 x7 x8 cx f g n b l t z = jbO (K_m_cells D cx f g n b l t z) (jk D 223 71 ([some (.ref 79), some (.int x1), some (.int x2), some (.int x3), some (.int x4), some (.int x5), some (.int x6), some (.int x7), some (.int x8)], []) [.int x8]) := by
  refine (jev_blk 2 (pc' := 70) (L' := ([some (.ref 79), some (.int x1), some (.int x2), some (.int x3), some (.int x4), some (.int x5), some (.int x6), some (.int x7), some (.int x8)], [])) (S' := [.ref 79, .int x8]) (h' := (jXt cx (jY f g n b l t), z)) rfl).trans ?_
  exact jev_callb (nx := 71) (rest := [.int x8]) rfl
set_option maxRecDepth 20000 in
theorem E_m_oneMore_35 {D : Nat}  {x1 : Int32} {x2 : Int32} {x3 : Int32} {x4 : Int32} {x5 : Int32} {d6 : Option Value} {d7 : Option Value} {d8 : Option Value} {u0 : Int32} {cx : jCX} {f : Nat → Int32} {g : Nat → Nat → Int32} {n : Nat → Nat → Int64} {b : Nat → Nat → Int32} {l : Nat → Int64} {t : List jE} {z : Nat × Nat × Nat × (Nat → Int32)}  : jev D 223 35 ([some (.ref 79), some (.int x1), some (.int x2), some (.int x3), some (.int x4), some (.int x5), d6, d7, d8], []) [.int u0] (jXt cx (jY f g n b l t), z) = if u0 = 0 then (K_m_oneMore_52 D x1 x2 x3 x4 (some (.int x5)) d6 d7 d8 cx f g n b l t z) else (jbO (K_m_isSeen D 0 x4 x5 cx f g n b l t z) (jk D 223 42 ([some (.ref 79), some (.int x1), some (.int x2), some (.int x3), some (.int x4), some (.int x5), d6, d7, d8], []) [.int x3])) := by
  refine (jev_blk 1 (pc' := if u0 = 0 then 52 else 36) (L' := ([some (.ref 79), some (.int x1), some (.int x2), some (.int x3), some (.int x4), some (.int x5), d6, d7, d8], [])) (S' := []) (h' := (jXt cx (jY f g n b l t), z)) rfl).trans (jev_ite.trans (jite_congr (fun _ => ?_) (fun _ => ?_)))
  · rfl
  · refine (jev_blk 5 (pc' := 41) (L' := ([some (.ref 79), some (.int x1), some (.int x2), some (.int x3), some (.int x4), some (.int x5), d6, d7, d8], [])) (S' := [.int x5, .int x4, .int 0, .ref 79, .int x3]) (h' := (jXt cx (jY f g n b l t), z)) rfl).trans ?_
    exact jev_callb (nx := 42) (rest := [.int x3]) rfl
set_option maxRecDepth 20000 in
theorem E_m_oneMore_71 {D : Nat}  {x1 : Int32} {x2 : Int32} {x3 : Int32} {x4 : Int32} {x5 : Int32} {x6 : Int32} {x7 : Int32} {x8 : Int32} {u0 : Int32} {u1 : Int32} {cx : jCX} {f : Nat → Int32} {g : Nat → Nat → Int32} {n : Nat → Nat → Int64} {b : Nat → Nat → Int32} {l : Nat → Int64} {t : List jE} {z : Nat × Nat × Nat × (Nat → Int32)}  : jev D 223 71 ([some (.ref 79), some (.int x1), some (.int x2), some (.int x3), some (.int x4), some (.int x5), some (.int x6), some (.int x7), some (.int x8)], []) [.int u0, .int u1] (jXt cx (jY f g n b l t), z) = if u1 < u0 then (if ((x3 >>> (x8 &&& 31)) &&& 1) = 0 then (jbO (K_m_isSeenBy D 0 x6 x1 0 x8 cx f g n b l t z) (jk D 223 86 ([some (.ref 79), some (.int x1), some (.int x2), some (.int x3), some (.int x4), some (.int x5), some (.int x6), some (.int x7), some (.int x8)], []) [.int x7])) else (K_m_oneMore_92 D x1 x2 x3 x4 x5 x6 (some (.int x7)) x8 x7 cx f g n b l t z)) else (if x4 = (-1) then (K_m_oneMore_104 D x1 x2 x3 (some (.int x4)) (some (.int x5)) x6 x7 (some (.int x8)) cx f g n b l t z) else (if x5 < x7 then (K_m_oneMore_104 D x1 x2 x3 (some (.int x4)) (some (.int x5)) x6 x7 (some (.int x8)) cx f g n b l t z) else (K_m_oneMore_108 D x1 x2 x3 x4 x5 x6 (some (.int x7)) (some (.int x8)) cx f g n b l t z))) := by
  refine (jev_blk 1 (pc' := if u1 < u0 then 72 else 97) (L' := ([some (.ref 79), some (.int x1), some (.int x2), some (.int x3), some (.int x4), some (.int x5), some (.int x6), some (.int x7), some (.int x8)], [])) (S' := []) (h' := (jXt cx (jY f g n b l t), z)) rfl).trans (jev_ite.trans (jite_congr (fun _ => ?_) (fun _ => ?_)))
  · refine (jev_blk 7 (pc' := if ((x3 >>> (x8 &&& 31)) &&& 1) = 0 then 79 else 92) (L' := ([some (.ref 79), some (.int x1), some (.int x2), some (.int x3), some (.int x4), some (.int x5), some (.int x6), some (.int x7), some (.int x8)], [])) (S' := [.int x7]) (h' := (jXt cx (jY f g n b l t), z)) rfl).trans (jev_ite.trans (jite_congr (fun _ => ?_) (fun _ => ?_)))
    · refine (jev_blk 6 (pc' := 85) (L' := ([some (.ref 79), some (.int x1), some (.int x2), some (.int x3), some (.int x4), some (.int x5), some (.int x6), some (.int x7), some (.int x8)], [])) (S' := [.int x8, .int 0, .int x1, .int x6, .int 0, .ref 79, .int x7]) (h' := (jXt cx (jY f g n b l t), z)) rfl).trans ?_
      exact jev_callb (nx := 86) (rest := [.int x7]) rfl
    · rfl
  · refine (jev_blk 3 (pc' := if x4 = (-1) then 104 else 100) (L' := ([some (.ref 79), some (.int x1), some (.int x2), some (.int x3), some (.int x4), some (.int x5), some (.int x6), some (.int x7), some (.int x8)], [])) (S' := []) (h' := (jXt cx (jY f g n b l t), z)) rfl).trans (jev_ite.trans (jite_congr (fun _ => ?_) (fun _ => ?_)))
    · rfl
    · refine (jev_blk 3 (pc' := if x5 < x7 then 104 else 103) (L' := ([some (.ref 79), some (.int x1), some (.int x2), some (.int x3), some (.int x4), some (.int x5), some (.int x6), some (.int x7), some (.int x8)], [])) (S' := []) (h' := (jXt cx (jY f g n b l t), z)) rfl).trans (jev_ite.trans (jite_congr (fun _ => ?_) (fun _ => ?_)))
      · rfl
      · exact jev_blk 1 rfl
set_option maxRecDepth 20000 in
theorem E_m_oneMore_92 {D : Nat}  {x1 : Int32} {x2 : Int32} {x3 : Int32} {x4 : Int32} {x5 : Int32} {x6 : Int32} {d7 : Option Value} {x8 : Int32} {u0 : Int32} {cx : jCX} {f : Nat → Int32} {g : Nat → Nat → Int32} {n : Nat → Nat → Int64} {b : Nat → Nat → Int32} {l : Nat → Int64} {t : List jE} {z : Nat × Nat × Nat × (Nat → Int32)}  : K_m_oneMore_92 D x1 x2 x3 x4 x5 x6 d7 x8 u0 cx f g n b l t z = K_m_oneMore_93 D x1 x2 x3 x4 x5 x6 d7 x8 0 u0 cx f g n b l t z := by
  exact jev_blk 1 rfl
set_option maxRecDepth 20000 in
theorem E_m_oneMore_104 {D : Nat}  {x1 : Int32} {x2 : Int32} {x3 : Int32} {d4 : Option Value} {d5 : Option Value} {x6 : Int32} {x7 : Int32} {d8 : Option Value} {cx : jCX} {f : Nat → Int32} {g : Nat → Nat → Int32} {n : Nat → Nat → Int64} {b : Nat → Nat → Int32} {l : Nat → Int64} {t : List jE} {z : Nat × Nat × Nat × (Nat → Int32)}  : K_m_oneMore_104 D x1 x2 x3 d4 d5 x6 x7 d8 cx f g n b l t z = K_m_oneMore_108 D x1 x2 x3 x6 x7 x6 (some (.int x7)) d8 cx f g n b l t z := by
  exact jev_blk 4 rfl
set_option maxRecDepth 20000 in
theorem E_m_oneMore_108 {D : Nat}  {x1 : Int32} {x2 : Int32} {x3 : Int32} {x4 : Int32} {x5 : Int32} {x6 : Int32} {d7 : Option Value} {d8 : Option Value} {cx : jCX} {f : Nat → Int32} {g : Nat → Nat → Int32} {n : Nat → Nat → Int64} {b : Nat → Nat → Int32} {l : Nat → Int64} {t : List jE} {z : Nat × Nat × Nat × (Nat → Int32)}  : K_m_oneMore_108 D x1 x2 x3 x4 x5 x6 d7 d8 cx f g n b l t z = K_m_oneMore_60 D x1 x2 x3 x4 x5 (x6 + 1) d7 d8 cx f g n b l t z := by
  exact jev_blk 2 rfl
set_option maxRecDepth 20000 in
theorem E_m_oneMore_93 {D : Nat}  {x1 : Int32} {x2 : Int32} {x3 : Int32} {x4 : Int32} {x5 : Int32} {x6 : Int32} {d7 : Option Value} {x8 : Int32} {u0 : Int32} {u1 : Int32} {cx : jCX} {f : Nat → Int32} {g : Nat → Nat → Int32} {n : Nat → Nat → Int64} {b : Nat → Nat → Int32} {l : Nat → Int64} {t : List jE} {z : Nat × Nat × Nat × (Nat → Int32)}  : K_m_oneMore_93 D x1 x2 x3 x4 x5 x6 d7 x8 u0 u1 cx f g n b l t z = K_m_oneMore_68 D x1 x2 x3 x4 x5 x6 (u1 + u0) (x8 + 1) cx f g n b l t z := by
  exact jev_blk 4 rfl
set_option maxRecDepth 20000 in
theorem E_m_oneMore_42 {D : Nat}  {x1 : Int32} {x2 : Int32} {d3 : Option Value} {x4 : Int32} {x5 : Int32} {d6 : Option Value} {d7 : Option Value} {d8 : Option Value} {u0 : Int32} {u1 : Int32} {cx : jCX} {f : Nat → Int32} {g : Nat → Nat → Int32} {n : Nat → Nat → Int64} {b : Nat → Nat → Int32} {l : Nat → Int64} {t : List jE} {z : Nat × Nat × Nat × (Nat → Int32)}  : jev D 223 42 ([some (.ref 79), some (.int x1), some (.int x2), d3, some (.int x4), some (.int x5), d6, d7, d8], []) [.int u0, .int u1] (jXt cx (jY f g n b l t), z) = if u0 = 0 then (K_m_oneMore_48 D x1 x2 d3 x4 x5 d6 d7 d8 0 u1 cx f g n b l t z) else (K_m_oneMore_48 D x1 x2 d3 x4 x5 d6 d7 d8 (1 <<< (x5 &&& 31)) u1 cx f g n b l t z) := by
  refine (jev_blk 1 (pc' := if u0 = 0 then 47 else 43) (L' := ([some (.ref 79), some (.int x1), some (.int x2), d3, some (.int x4), some (.int x5), d6, d7, d8], [])) (S' := [.int u1]) (h' := (jXt cx (jY f g n b l t), z)) rfl).trans (jev_ite.trans (jite_congr (fun _ => ?_) (fun _ => ?_)))
  · exact jev_blk 1 rfl
  · exact jev_blk 4 rfl
set_option maxRecDepth 20000 in
theorem E_m_oneMore_48 {D : Nat}  {x1 : Int32} {x2 : Int32} {d3 : Option Value} {x4 : Int32} {x5 : Int32} {d6 : Option Value} {d7 : Option Value} {d8 : Option Value} {u0 : Int32} {u1 : Int32} {cx : jCX} {f : Nat → Int32} {g : Nat → Nat → Int32} {n : Nat → Nat → Int64} {b : Nat → Nat → Int32} {l : Nat → Int64} {t : List jE} {z : Nat × Nat × Nat × (Nat → Int32)}  : K_m_oneMore_48 D x1 x2 d3 x4 x5 d6 d7 d8 u0 u1 cx f g n b l t z = K_m_oneMore_27 D x1 x2 (u1 ||| u0) x4 (x5 + 1) d6 d7 d8 cx f g n b l t z := by
  exact jev_blk 4 rfl
set_option maxRecDepth 20000 in
theorem E_m_oneMore_86 {D : Nat}  {x1 : Int32} {x2 : Int32} {x3 : Int32} {x4 : Int32} {x5 : Int32} {x6 : Int32} {d7 : Option Value} {x8 : Int32} {u0 : Int32} {u1 : Int32} {cx : jCX} {f : Nat → Int32} {g : Nat → Nat → Int32} {n : Nat → Nat → Int64} {b : Nat → Nat → Int32} {l : Nat → Int64} {t : List jE} {z : Nat × Nat × Nat × (Nat → Int32)}  : jev D 223 86 ([some (.ref 79), some (.int x1), some (.int x2), some (.int x3), some (.int x4), some (.int x5), some (.int x6), d7, some (.int x8)], []) [.int u0, .int u1] (jXt cx (jY f g n b l t), z) = if u0 = 0 then (K_m_oneMore_92 D x1 x2 x3 x4 x5 x6 d7 x8 u1 cx f g n b l t z) else (if jout x8 690 then none else (K_m_oneMore_93 D x1 x2 x3 x4 x5 x6 d7 x8 (g 20 x8.toNatClampNeg) u1 cx f g n b l t z)) := by
  refine (jev_blk 1 (pc' := if u0 = 0 then 92 else 87) (L' := ([some (.ref 79), some (.int x1), some (.int x2), some (.int x3), some (.int x4), some (.int x5), some (.int x6), d7, some (.int x8)], [])) (S' := [.int u1]) (h' := (jXt cx (jY f g n b l t), z)) rfl).trans (jev_ite.trans (jite_congr (fun _ => ?_) (fun _ => ?_)))
  · rfl
  · refine (jev_blk 3 (pc' := 90) (L' := ([some (.ref 79), some (.int x1), some (.int x2), some (.int x3), some (.int x4), some (.int x5), some (.int x6), d7, some (.int x8)], [])) (S' := [.int x8, .ref 102, .int u1]) (h' := (jXt cx (jY f g n b l t), z)) rfl).trans ?_
    refine (jev_grd (q := jout x8 690) (pc' := 91) (L' := ([some (.ref 79), some (.int x1), some (.int x2), some (.int x3), some (.int x4), some (.int x5), some (.int x6), d7, some (.int x8)], [])) (S' := [.int (g 20 x8.toNatClampNeg), .int u1]) (h' := (jXt cx (jY f g n b l t), z)) rfl).trans (jite_congr (fun _ => rfl) (fun _ => ?_))
    exact jev_blk 1 rfl
set_option maxRecDepth 20000 in
theorem E_m_costs {D : Nat}  {a0 : Int32} {a1 : Int32} {a2 : Int32} {cx : jCX} {f : Nat → Int32} {g : Nat → Nat → Int32} {n : Nat → Nat → Int64} {b : Nat → Nat → Int32} {l : Nat → Int64} {t : List jE} {z : Nat × Nat × Nat × (Nat → Int32)}  : K_m_costs D a0 a1 a2 cx f g n b l t z = jbO (K_m_isScare D a0 cx (jup f 0 (0)) g n b l t z) (jk D 224 6 ([some (.ref 79), some (.int a0), some (.int a1), some (.int a2), none, none], []) []) := by
  refine (jev_blk 5 (pc' := 5) (L' := ([some (.ref 79), some (.int a0), some (.int a1), some (.int a2), none, none], [])) (S' := [.int a0, .ref 79]) (h' := (jXt cx (jY (jup f 0 (0)) g n b l t), z)) rfl).trans ?_
  exact jev_callb (nx := 6) (rest := []) rfl
set_option maxRecDepth 20000 in
theorem E_m_costs_6 {D : Nat}  {x1 : Int32} {x2 : Int32} {x3 : Int32} {d4 : Option Value} {d5 : Option Value} {u0 : Int32} {cx : jCX} {f : Nat → Int32} {g : Nat → Nat → Int32} {n : Nat → Nat → Int64} {b : Nat → Nat → Int32} {l : Nat → Int64} {t : List jE} {z : Nat × Nat × Nat × (Nat → Int32)}  : jev D 224 6 ([some (.ref 79), some (.int x1), some (.int x2), some (.int x3), d4, d5], []) [.int u0] (jXt cx (jY f g n b l t), z) = if u0 = 0 then (some (.inl (some (.int (-1))), (jXt cx (jY f g n b l t), z))) else (jbO (K_m_isDays D x2 cx f g n b l t z) (jk D 224 9 ([some (.ref 79), some (.int x1), some (.int x2), some (.int x3), d4, d5], []) [])) := by
  refine (jev_blk 1 (pc' := if u0 = 0 then 15 else 7) (L' := ([some (.ref 79), some (.int x1), some (.int x2), some (.int x3), d4, d5], [])) (S' := []) (h' := (jXt cx (jY f g n b l t), z)) rfl).trans (jev_ite.trans (jite_congr (fun _ => ?_) (fun _ => ?_)))
  · refine (jev_blk 1 (pc' := 16) (L' := ([some (.ref 79), some (.int x1), some (.int x2), some (.int x3), d4, d5], [])) (S' := [.int (-1)]) (h' := (jXt cx (jY f g n b l t), z)) rfl).trans ?_
    exact jev_fin rfl
  · refine (jev_blk 1 (pc' := 8) (L' := ([some (.ref 79), some (.int x1), some (.int x2), some (.int x3), d4, d5], [])) (S' := [.int x2]) (h' := (jXt cx (jY f g n b l t), z)) rfl).trans ?_
    exact jev_callb (nx := 9) (rest := []) rfl
