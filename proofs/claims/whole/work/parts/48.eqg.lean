-- EQUATIONS: one a block; E_ unfolds, L_ a loop's head
set_option maxRecDepth 20000 in
theorem E_m_isOnRota {D : Nat}  {a0 : Int32} {a1 : Int32} {cx : jCX} {f : Nat → Int32} {g : Nat → Nat → Int32} {n : Nat → Nat → Int64} {b : Nat → Nat → Int32} {l : Nat → Int64} {t : List jE} {z : Nat × Nat × Nat × (Nat → Int32)}  : K_m_isOnRota D a0 a1 cx f g n b l t z = if jout ((6 * a0) + a1) 138 then none else (if jout a0 23 then none else (if (((g 23 ((6 * a0) + a1).toNatClampNeg) >>> ((g 15 a0.toNatClampNeg) &&& 31)) &&& 1) = 1 then (some (.inl (some (.int 1)), (jXt cx (jY f g n b l t), z))) else (some (.inl (some (.int 0)), (jXt cx (jY f g n b l t), z))))) := by
  refine (jev_blk 7 (pc' := 7) (L' := ([some (.ref 79), some (.int a0), some (.int a1)], [])) (S' := [.int ((6 * a0) + a1), .ref 105]) (h' := (jXt cx (jY f g n b l t), z)) rfl).trans ?_
  refine (jev_grd (q := jout ((6 * a0) + a1) 138) (pc' := 8) (L' := ([some (.ref 79), some (.int a0), some (.int a1)], [])) (S' := [.int (g 23 ((6 * a0) + a1).toNatClampNeg)]) (h' := (jXt cx (jY f g n b l t), z)) rfl).trans (jite_congr (fun _ => rfl) (fun _ => ?_))
  refine (jev_blk 3 (pc' := 11) (L' := ([some (.ref 79), some (.int a0), some (.int a1)], [])) (S' := [.int a0, .ref 97, .int (g 23 ((6 * a0) + a1).toNatClampNeg)]) (h' := (jXt cx (jY f g n b l t), z)) rfl).trans ?_
  refine (jev_grd (q := jout a0 23) (pc' := 12) (L' := ([some (.ref 79), some (.int a0), some (.int a1)], [])) (S' := [.int (g 15 a0.toNatClampNeg), .int (g 23 ((6 * a0) + a1).toNatClampNeg)]) (h' := (jXt cx (jY f g n b l t), z)) rfl).trans (jite_congr (fun _ => rfl) (fun _ => ?_))
  refine (jev_blk 5 (pc' := if (((g 23 ((6 * a0) + a1).toNatClampNeg) >>> ((g 15 a0.toNatClampNeg) &&& 31)) &&& 1) = 1 then 17 else 19) (L' := ([some (.ref 79), some (.int a0), some (.int a1)], [])) (S' := []) (h' := (jXt cx (jY f g n b l t), z)) rfl).trans (jev_ite.trans (jite_congr (fun _ => ?_) (fun _ => ?_)))
  · refine (jev_blk 2 (pc' := 20) (L' := ([some (.ref 79), some (.int a0), some (.int a1)], [])) (S' := [.int 1]) (h' := (jXt cx (jY f g n b l t), z)) rfl).trans ?_
    exact jev_fin rfl
  · refine (jev_blk 1 (pc' := 20) (L' := ([some (.ref 79), some (.int a0), some (.int a1)], [])) (S' := [.int 0]) (h' := (jXt cx (jY f g n b l t), z)) rfl).trans ?_
    exact jev_fin rfl
set_option maxRecDepth 20000 in
theorem E_m_isOnStrike {D : Nat}  {a0 : Int32} {a1 : Int32} {cx : jCX} {f : Nat → Int32} {g : Nat → Nat → Int32} {n : Nat → Nat → Int64} {b : Nat → Nat → Int32} {l : Nat → Int64} {t : List jE} {z : Nat × Nat × Nat × (Nat → Int32)}  : K_m_isOnStrike D a0 a1 cx f g n b l t z = if (f 19) = 1 then (some (.inl (some (.int 1)), (jXt cx (jY f g n b l t), z))) else (if jout a0 23 then none else (if (((g 19 a0.toNatClampNeg) >>> (a1 &&& 31)) &&& 1) = 1 then (some (.inl (some (.int 1)), (jXt cx (jY f g n b l t), z))) else (some (.inl (some (.int 0)), (jXt cx (jY f g n b l t), z))))) := by
  refine (jev_blk 4 (pc' := if (f 19) = 1 then 14 else 4) (L' := ([some (.ref 79), some (.int a0), some (.int a1)], [])) (S' := []) (h' := (jXt cx (jY f g n b l t), z)) rfl).trans (jev_ite.trans (jite_congr (fun _ => ?_) (fun _ => ?_)))
  · refine (jev_blk 2 (pc' := 17) (L' := ([some (.ref 79), some (.int a0), some (.int a1)], [])) (S' := [.int 1]) (h' := (jXt cx (jY f g n b l t), z)) rfl).trans ?_
    exact jev_fin rfl
  · refine (jev_blk 3 (pc' := 7) (L' := ([some (.ref 79), some (.int a0), some (.int a1)], [])) (S' := [.int a0, .ref 101]) (h' := (jXt cx (jY f g n b l t), z)) rfl).trans ?_
    refine (jev_grd (q := jout a0 23) (pc' := 8) (L' := ([some (.ref 79), some (.int a0), some (.int a1)], [])) (S' := [.int (g 19 a0.toNatClampNeg)]) (h' := (jXt cx (jY f g n b l t), z)) rfl).trans (jite_congr (fun _ => rfl) (fun _ => ?_))
    refine (jev_blk 6 (pc' := if (((g 19 a0.toNatClampNeg) >>> (a1 &&& 31)) &&& 1) = 1 then 14 else 16) (L' := ([some (.ref 79), some (.int a0), some (.int a1)], [])) (S' := []) (h' := (jXt cx (jY f g n b l t), z)) rfl).trans (jev_ite.trans (jite_congr (fun _ => ?_) (fun _ => ?_)))
    · refine (jev_blk 2 (pc' := 17) (L' := ([some (.ref 79), some (.int a0), some (.int a1)], [])) (S' := [.int 1]) (h' := (jXt cx (jY f g n b l t), z)) rfl).trans ?_
      exact jev_fin rfl
    · refine (jev_blk 1 (pc' := 17) (L' := ([some (.ref 79), some (.int a0), some (.int a1)], [])) (S' := [.int 0]) (h' := (jXt cx (jY f g n b l t), z)) rfl).trans ?_
      exact jev_fin rfl
set_option maxRecDepth 20000 in
theorem E_m_flapsOf {D : Nat}  {a0 : Int32} {a1 : Int32} {cx : jCX} {f : Nat → Int32} {g : Nat → Nat → Int32} {n : Nat → Nat → Int64} {b : Nat → Nat → Int32} {l : Nat → Int64} {t : List jE} {z : Nat × Nat × Nat × (Nat → Int32)}  : K_m_flapsOf D a0 a1 cx f g n b l t z = if (f 19) = 2 then (if (f 20) = a1 then (some (.inl (some (.int 0)), (jXt cx (jY f g n b l t), z))) else (K_m_flapsOf_10 D a0 a1 none cx f g n b l t z)) else (K_m_flapsOf_10 D a0 a1 none cx f g n b l t z) := by
  refine (jev_blk 4 (pc' := if (f 19) = 2 then 4 else 10) (L' := ([some (.ref 79), some (.int a0), some (.int a1), none], [])) (S' := []) (h' := (jXt cx (jY f g n b l t), z)) rfl).trans (jev_ite.trans (jite_congr (fun _ => ?_) (fun _ => ?_)))
  · refine (jev_blk 4 (pc' := if (f 20) = a1 then 8 else 10) (L' := ([some (.ref 79), some (.int a0), some (.int a1), none], [])) (S' := []) (h' := (jXt cx (jY f g n b l t), z)) rfl).trans (jev_ite.trans (jite_congr (fun _ => ?_) (fun _ => ?_)))
    · refine (jev_blk 1 (pc' := 9) (L' := ([some (.ref 79), some (.int a0), some (.int a1), none], [])) (S' := [.int 0]) (h' := (jXt cx (jY f g n b l t), z)) rfl).trans ?_
      exact jev_fin rfl
    · rfl
  · rfl
set_option maxRecDepth 20000 in
theorem E_m_flapsOf_10 {D : Nat}  {x1 : Int32} {x2 : Int32} {d3 : Option Value} {cx : jCX} {f : Nat → Int32} {g : Nat → Nat → Int32} {n : Nat → Nat → Int64} {b : Nat → Nat → Int32} {l : Nat → Int64} {t : List jE} {z : Nat × Nat × Nat × (Nat → Int32)}  : K_m_flapsOf_10 D x1 x2 d3 cx f g n b l t z = if (f 19) = 4 then (some (.inl (some (.int 2)), (jXt cx (jY f g n b l t), z))) else (if (f 19) = 5 then (K_m_flapsOf_26 D x1 x2 d3 12 cx f g n b l t z) else (K_m_flapsOf_26 D x1 x2 d3 (g 1 4) cx f g n b l t z)) := by
  refine (jev_blk 4 (pc' := if (f 19) = 4 then 14 else 16) (L' := ([some (.ref 79), some (.int x1), some (.int x2), d3], [])) (S' := []) (h' := (jXt cx (jY f g n b l t), z)) rfl).trans (jev_ite.trans (jite_congr (fun _ => ?_) (fun _ => ?_)))
  · refine (jev_blk 1 (pc' := 15) (L' := ([some (.ref 79), some (.int x1), some (.int x2), d3], [])) (S' := [.int 2]) (h' := (jXt cx (jY f g n b l t), z)) rfl).trans ?_
    exact jev_fin rfl
  · refine (jev_blk 4 (pc' := if (f 19) = 5 then 20 else 22) (L' := ([some (.ref 79), some (.int x1), some (.int x2), d3], [])) (S' := []) (h' := (jXt cx (jY f g n b l t), z)) rfl).trans (jev_ite.trans (jite_congr (fun _ => ?_) (fun _ => ?_)))
    · exact jev_blk 2 rfl
    · exact jev_blk 4 rfl
set_option maxRecDepth 20000 in
theorem E_m_flapsOf_26 {D : Nat}  {x1 : Int32} {x2 : Int32} {d3 : Option Value} {u0 : Int32} {cx : jCX} {f : Nat → Int32} {g : Nat → Nat → Int32} {n : Nat → Nat → Int64} {b : Nat → Nat → Int32} {l : Nat → Int64} {t : List jE} {z : Nat × Nat × Nat × (Nat → Int32)}  : K_m_flapsOf_26 D x1 x2 d3 u0 cx f g n b l t z = jbO (K_m_isOnRota D x1 x2 cx f g n b l t z) (jk D 197 31 ([some (.ref 79), some (.int x1), some (.int x2), some (.int u0)], []) []) := by
  refine (jev_blk 4 (pc' := 30) (L' := ([some (.ref 79), some (.int x1), some (.int x2), some (.int u0)], [])) (S' := [.int x2, .int x1, .ref 79]) (h' := (jXt cx (jY f g n b l t), z)) rfl).trans ?_
  exact jev_callb (nx := 31) (rest := []) rfl
set_option maxRecDepth 20000 in
theorem E_m_flapsOf_31 {D : Nat}  {x1 : Int32} {x2 : Int32} {x3 : Int32} {u0 : Int32} {cx : jCX} {f : Nat → Int32} {g : Nat → Nat → Int32} {n : Nat → Nat → Int64} {b : Nat → Nat → Int32} {l : Nat → Int64} {t : List jE} {z : Nat × Nat × Nat × (Nat → Int32)}  : jev D 197 31 ([some (.ref 79), some (.int x1), some (.int x2), some (.int x3)], []) [.int u0] (jXt cx (jY f g n b l t), z) = if u0 = 0 then (K_m_flapsOf_49 D x1 (some (.int x2)) (some (.int x3)) cx f g n b l t z) else (jbO (K_m_isOnStrike D x1 x2 cx f g n b l t z) (jk D 197 36 ([some (.ref 79), some (.int x1), some (.int x2), some (.int x3)], []) [])) := by
  refine (jev_blk 1 (pc' := if u0 = 0 then 49 else 32) (L' := ([some (.ref 79), some (.int x1), some (.int x2), some (.int x3)], [])) (S' := []) (h' := (jXt cx (jY f g n b l t), z)) rfl).trans (jev_ite.trans (jite_congr (fun _ => ?_) (fun _ => ?_)))
  · rfl
  · refine (jev_blk 3 (pc' := 35) (L' := ([some (.ref 79), some (.int x1), some (.int x2), some (.int x3)], [])) (S' := [.int x2, .int x1, .ref 79]) (h' := (jXt cx (jY f g n b l t), z)) rfl).trans ?_
    exact jev_callb (nx := 36) (rest := []) rfl
set_option maxRecDepth 20000 in
theorem E_m_flapsOf_49 {D : Nat}  {x1 : Int32} {d2 : Option Value} {d3 : Option Value} {cx : jCX} {f : Nat → Int32} {g : Nat → Nat → Int32} {n : Nat → Nat → Int64} {b : Nat → Nat → Int32} {l : Nat → Int64} {t : List jE} {z : Nat × Nat × Nat × (Nat → Int32)}  : K_m_flapsOf_49 D x1 d2 d3 cx f g n b l t z = if jout x1 23 then none else (jbO (K_m_windOf D (g 14 x1.toNatClampNeg) cx f g n b l t z) (jk D 197 55 ([some (.ref 79), some (.int x1), d2, d3], []) [])) := by
  refine (jev_blk 4 (pc' := 53) (L' := ([some (.ref 79), some (.int x1), d2, d3], [])) (S' := [.int x1, .ref 96, .ref 79]) (h' := (jXt cx (jY f g n b l t), z)) rfl).trans ?_
  refine (jev_grd (q := jout x1 23) (pc' := 54) (L' := ([some (.ref 79), some (.int x1), d2, d3], [])) (S' := [.int (g 14 x1.toNatClampNeg), .ref 79]) (h' := (jXt cx (jY f g n b l t), z)) rfl).trans (jite_congr (fun _ => rfl) (fun _ => ?_))
  exact jev_callb (nx := 55) (rest := []) rfl
set_option maxRecDepth 20000 in
theorem E_m_flapsOf_36 {D : Nat}  {x1 : Int32} {x2 : Int32} {x3 : Int32} {u0 : Int32} {cx : jCX} {f : Nat → Int32} {g : Nat → Nat → Int32} {n : Nat → Nat → Int64} {b : Nat → Nat → Int32} {l : Nat → Int64} {t : List jE} {z : Nat × Nat × Nat × (Nat → Int32)}  : jev D 197 36 ([some (.ref 79), some (.int x1), some (.int x2), some (.int x3)], []) [.int u0] (jXt cx (jY f g n b l t), z) = if u0 = 0 then (if jout ((6 * x1) + x2) 138 then none else (if (g 22 ((6 * x1) + x2).toNatClampNeg) < x3 then (some (.inl (some (.int 1)), (jXt cx (jY f g n b l t), z))) else (K_m_flapsOf_49 D x1 (some (.int x2)) (some (.int x3)) cx f g n b l t z))) else (K_m_flapsOf_49 D x1 (some (.int x2)) (some (.int x3)) cx f g n b l t z) := by
  refine (jev_blk 1 (pc' := if u0 = 0 then 37 else 49) (L' := ([some (.ref 79), some (.int x1), some (.int x2), some (.int x3)], [])) (S' := []) (h' := (jXt cx (jY f g n b l t), z)) rfl).trans (jev_ite.trans (jite_congr (fun _ => ?_) (fun _ => ?_)))
  · refine (jev_blk 7 (pc' := 44) (L' := ([some (.ref 79), some (.int x1), some (.int x2), some (.int x3)], [])) (S' := [.int ((6 * x1) + x2), .ref 104]) (h' := (jXt cx (jY f g n b l t), z)) rfl).trans ?_
    refine (jev_grd (q := jout ((6 * x1) + x2) 138) (pc' := 45) (L' := ([some (.ref 79), some (.int x1), some (.int x2), some (.int x3)], [])) (S' := [.int (g 22 ((6 * x1) + x2).toNatClampNeg)]) (h' := (jXt cx (jY f g n b l t), z)) rfl).trans (jite_congr (fun _ => rfl) (fun _ => ?_))
    refine (jev_blk 2 (pc' := if (g 22 ((6 * x1) + x2).toNatClampNeg) < x3 then 47 else 49) (L' := ([some (.ref 79), some (.int x1), some (.int x2), some (.int x3)], [])) (S' := []) (h' := (jXt cx (jY f g n b l t), z)) rfl).trans (jev_ite.trans (jite_congr (fun _ => ?_) (fun _ => ?_)))
    · refine (jev_blk 1 (pc' := 48) (L' := ([some (.ref 79), some (.int x1), some (.int x2), some (.int x3)], [])) (S' := [.int 1]) (h' := (jXt cx (jY f g n b l t), z)) rfl).trans ?_
      exact jev_fin rfl
    · rfl
  · rfl
set_option maxRecDepth 20000 in
theorem E_m_flapsOf_55 {D : Nat}  {d1 : Option Value} {d2 : Option Value} {d3 : Option Value} {u0 : Int32} {cx : jCX} {f : Nat → Int32} {g : Nat → Nat → Int32} {n : Nat → Nat → Int64} {b : Nat → Nat → Int32} {l : Nat → Int64} {t : List jE} {z : Nat × Nat × Nat × (Nat → Int32)}  : jev D 197 55 ([some (.ref 79), d1, d2, d3], []) [.int u0] (jXt cx (jY f g n b l t), z) = if u0 < (g 1 7) then (some (.inl (some (.int 0)), (jXt cx (jY f g n b l t), z))) else (some (.inl (some (.int 2)), (jXt cx (jY f g n b l t), z))) := by
  refine (jev_blk 5 (pc' := if u0 < (g 1 7) then 62 else 60) (L' := ([some (.ref 79), d1, d2, d3], [])) (S' := []) (h' := (jXt cx (jY f g n b l t), z)) rfl).trans (jev_ite.trans (jite_congr (fun _ => ?_) (fun _ => ?_)))
  · refine (jev_blk 1 (pc' := 63) (L' := ([some (.ref 79), d1, d2, d3], [])) (S' := [.int 0]) (h' := (jXt cx (jY f g n b l t), z)) rfl).trans ?_
    exact jev_fin rfl
  · refine (jev_blk 2 (pc' := 63) (L' := ([some (.ref 79), d1, d2, d3], [])) (S' := [.int 2]) (h' := (jXt cx (jY f g n b l t), z)) rfl).trans ?_
    exact jev_fin rfl
set_option maxRecDepth 20000 in
theorem E_m_flaps {D : Nat}  {a0 : Int32} {a1 : Int32} {cx : jCX} {f : Nat → Int32} {g : Nat → Nat → Int32} {n : Nat → Nat → Int64} {b : Nat → Nat → Int32} {l : Nat → Int64} {t : List jE} {z : Nat × Nat × Nat × (Nat → Int32)}  : K_m_flaps D a0 a1 cx f g n b l t z = K_m_flaps_4 D a0 a1 0 0 none none cx f g n b l t z := by
  exact jev_blk 4 rfl
set_option maxRecDepth 20000 in
theorem L_m_flaps_4 {D : Nat}  {x1 : Int32} {x2 : Int32} {x3 : Int32} {x4 : Int32} {d5 : Option Value} {d6 : Option Value} {cx : jCX} {f : Nat → Int32} {g : Nat → Nat → Int32} {n : Nat → Nat → Int64} {b : Nat → Nat → Int32} {l : Nat → Int64} {t : List jE} {z : Nat × Nat × Nat × (Nat → Int32)}  : K_m_flaps_4 D x1 x2 x3 x4 d5 d6 cx f g n b l t z = if x4 < (g 1 2) then (jbO (K_m_flapsOf D x1 x4 cx f g n b l t z) (jk D 198 14 ([some (.ref 79), some (.int x1), some (.int x2), some (.int x3), some (.int x4), d5, d6], []) [])) else (some (.inl (some (.int x3)), (jXt cx (jY f g n b l t), z))) := by
  refine (jev_blk 6 (pc' := if x4 < (g 1 2) then 10 else 70) (L' := ([some (.ref 79), some (.int x1), some (.int x2), some (.int x3), some (.int x4), d5, d6], [])) (S' := []) (h' := (jXt cx (jY f g n b l t), z)) rfl).trans (jev_ite.trans (jite_congr (fun _ => ?_) (fun _ => ?_)))
  · refine (jev_blk 3 (pc' := 13) (L' := ([some (.ref 79), some (.int x1), some (.int x2), some (.int x3), some (.int x4), d5, d6], [])) (S' := [.int x4, .int x1, .ref 79]) (h' := (jXt cx (jY f g n b l t), z)) rfl).trans ?_
    exact jev_callb (nx := 14) (rest := []) rfl
  · refine (jev_blk 1 (pc' := 71) (L' := ([some (.ref 79), some (.int x1), some (.int x2), some (.int x3), some (.int x4), d5, d6], [])) (S' := [.int x3]) (h' := (jXt cx (jY f g n b l t), z)) rfl).trans ?_
    exact jev_fin rfl
set_option maxRecDepth 20000 in
theorem E_m_flaps_14 {D : Nat}  {x1 : Int32} {x2 : Int32} {x3 : Int32} {x4 : Int32} {d5 : Option Value} {d6 : Option Value} {u0 : Int32} {cx : jCX} {f : Nat → Int32} {g : Nat → Nat → Int32} {n : Nat → Nat → Int64} {b : Nat → Nat → Int32} {l : Nat → Int64} {t : List jE} {z : Nat × Nat × Nat × (Nat → Int32)}  : jev D 198 14 ([some (.ref 79), some (.int x1), some (.int x2), some (.int x3), some (.int x4), d5, d6], []) [.int u0] (jXt cx (jY f g n b l t), z) = if u0 = 0 then (K_m_flaps_68 D x1 x2 x3 x4 (some (.int u0)) d6 cx f g n b l t z) else (if u0 = 1 then (if x2 = 0 then (K_m_flaps_46 D x1 x2 x3 x4 (some (.int u0)) d6 cx f g n b l t z) else (if jout x1 23 then none else (jbO (K_m_paysOf D x1 x4 cx f g n b l t z) (jk D 198 32 ([some (.ref 79), some (.int x1), some (.int x2), some (.int x3), some (.int x4), some (.int u0), d6], []) [.int (g 17 x1.toNatClampNeg), .int x1, .ref 99])))) else (K_m_flaps_46 D x1 x2 x3 x4 (some (.int u0)) d6 cx f g n b l t z)) := by
  refine (jev_blk 3 (pc' := if u0 = 0 then 17 else 18) (L' := ([some (.ref 79), some (.int x1), some (.int x2), some (.int x3), some (.int x4), some (.int u0), d6], [])) (S' := []) (h' := (jXt cx (jY f g n b l t), z)) rfl).trans (jev_ite.trans (jite_congr (fun _ => ?_) (fun _ => ?_)))
  · exact jev_blk 1 rfl
  · refine (jev_blk 3 (pc' := if u0 = 1 then 21 else 46) (L' := ([some (.ref 79), some (.int x1), some (.int x2), some (.int x3), some (.int x4), some (.int u0), d6], [])) (S' := []) (h' := (jXt cx (jY f g n b l t), z)) rfl).trans (jev_ite.trans (jite_congr (fun _ => ?_) (fun _ => ?_)))
    · refine (jev_blk 2 (pc' := if x2 = 0 then 46 else 23) (L' := ([some (.ref 79), some (.int x1), some (.int x2), some (.int x3), some (.int x4), some (.int u0), d6], [])) (S' := []) (h' := (jXt cx (jY f g n b l t), z)) rfl).trans (jev_ite.trans (jite_congr (fun _ => ?_) (fun _ => ?_)))
      · rfl
      · refine (jev_blk 4 (pc' := 27) (L' := ([some (.ref 79), some (.int x1), some (.int x2), some (.int x3), some (.int x4), some (.int u0), d6], [])) (S' := [.int x1, .ref 99, .int x1, .ref 99]) (h' := (jXt cx (jY f g n b l t), z)) rfl).trans ?_
        refine (jev_grd (q := jout x1 23) (pc' := 28) (L' := ([some (.ref 79), some (.int x1), some (.int x2), some (.int x3), some (.int x4), some (.int u0), d6], [])) (S' := [.int (g 17 x1.toNatClampNeg), .int x1, .ref 99]) (h' := (jXt cx (jY f g n b l t), z)) rfl).trans (jite_congr (fun _ => rfl) (fun _ => ?_))
        refine (jev_blk 3 (pc' := 31) (L' := ([some (.ref 79), some (.int x1), some (.int x2), some (.int x3), some (.int x4), some (.int u0), d6], [])) (S' := [.int x4, .int x1, .ref 79, .int (g 17 x1.toNatClampNeg), .int x1, .ref 99]) (h' := (jXt cx (jY f g n b l t), z)) rfl).trans ?_
        exact jev_callb (nx := 32) (rest := [.int (g 17 x1.toNatClampNeg), .int x1, .ref 99]) rfl
    · rfl
set_option maxRecDepth 20000 in
theorem E_m_flaps_68 {D : Nat}  {x1 : Int32} {x2 : Int32} {x3 : Int32} {x4 : Int32} {d5 : Option Value} {d6 : Option Value} {cx : jCX} {f : Nat → Int32} {g : Nat → Nat → Int32} {n : Nat → Nat → Int64} {b : Nat → Nat → Int32} {l : Nat → Int64} {t : List jE} {z : Nat × Nat × Nat × (Nat → Int32)}  : K_m_flaps_68 D x1 x2 x3 x4 d5 d6 cx f g n b l t z = K_m_flaps_4 D x1 x2 x3 (x4 + 1) d5 d6 cx f g n b l t z := by
  exact jev_blk 2 rfl
set_option maxRecDepth 20000 in
theorem E_m_flaps_46 {D : Nat}  {x1 : Int32} {x2 : Int32} {x3 : Int32} {x4 : Int32} {d5 : Option Value} {d6 : Option Value} {cx : jCX} {f : Nat → Int32} {g : Nat → Nat → Int32} {n : Nat → Nat → Int64} {b : Nat → Nat → Int32} {l : Nat → Int64} {t : List jE} {z : Nat × Nat × Nat × (Nat → Int32)}  : K_m_flaps_46 D x1 x2 x3 x4 d5 d6 cx f g n b l t z = K_m_flaps_48 D x1 x2 x3 x4 d5 0 cx f g n b l t z := by
  exact jev_blk 2 rfl
set_option maxRecDepth 20000 in
theorem L_m_flaps_48 {D : Nat}  {x1 : Int32} {x2 : Int32} {x3 : Int32} {x4 : Int32} {d5 : Option Value} {x6 : Int32} {cx : jCX} {f : Nat → Int32} {g : Nat → Nat → Int32} {n : Nat → Nat → Int64} {b : Nat → Nat → Int32} {l : Nat → Int64} {t : List jE} {z : Nat × Nat × Nat × (Nat → Int32)}  : K_m_flaps_48 D x1 x2 x3 x4 d5 x6 cx f g n b l t z = jbO (K_m_cells D cx f g n b l t z) (jk D 198 51 ([some (.ref 79), some (.int x1), some (.int x2), some (.int x3), some (.int x4), d5, some (.int x6)], []) [.int x6]) := by
  refine (jev_blk 2 (pc' := 50) (L' := ([some (.ref 79), some (.int x1), some (.int x2), some (.int x3), some (.int x4), d5, some (.int x6)], [])) (S' := [.ref 79, .int x6]) (h' := (jXt cx (jY f g n b l t), z)) rfl).trans ?_
  exact jev_callb (nx := 51) (rest := [.int x6]) rfl
set_option maxRecDepth 20000 in
theorem E_m_flaps_32 {D : Nat}  {x1 : Int32} {x2 : Int32} {x3 : Int32} {x4 : Int32} {d5 : Option Value} {d6 : Option Value} {u0 : Int32} {u1 : Int32} {u2 : Int32} {cx : jCX} {f : Nat → Int32} {g : Nat → Nat → Int32} {n : Nat → Nat → Int64} {b : Nat → Nat → Int32} {l : Nat → Int64} {t : List jE} {z : Nat × Nat × Nat × (Nat → Int32)}  : jev D 198 32 ([some (.ref 79), some (.int x1), some (.int x2), some (.int x3), some (.int x4), d5, d6], []) [.int u0, .int u1, .int u2, .ref 99] (jXt cx (jY f g n b l t), z) = if jout u2 23 then none else (if jout ((6 * x1) + x4) 138 then none else (jev D 198 45 ([some (.ref 79), some (.int x1), some (.int x2), some (.int x3), some (.int x4), d5, d6], []) [.int ((g 22 ((6 * x1) + x4).toNatClampNeg) + 1), .int ((6 * x1) + x4), .ref 104] (jXt cx (jY f (jup g 17 ((jup (g 17) (u2.toNatClampNeg) (u1 + u0)))) n b l t), z))) := by
  refine (jev_blk 1 (pc' := 33) (L' := ([some (.ref 79), some (.int x1), some (.int x2), some (.int x3), some (.int x4), d5, d6], [])) (S' := [.int (u1 + u0), .int u2, .ref 99]) (h' := (jXt cx (jY f g n b l t), z)) rfl).trans ?_
  refine (jev_grd (q := jout u2 23) (pc' := 34) (L' := ([some (.ref 79), some (.int x1), some (.int x2), some (.int x3), some (.int x4), d5, d6], [])) (S' := []) (h' := (jXt cx (jY f (jup g 17 ((jup (g 17) (u2.toNatClampNeg) (u1 + u0)))) n b l t), z)) rfl).trans (jite_congr (fun _ => rfl) (fun _ => ?_))
  refine (jev_blk 8 (pc' := 42) (L' := ([some (.ref 79), some (.int x1), some (.int x2), some (.int x3), some (.int x4), d5, d6], [])) (S' := [.int ((6 * x1) + x4), .ref 104, .int ((6 * x1) + x4), .ref 104]) (h' := (jXt cx (jY f (jup g 17 ((jup (g 17) (u2.toNatClampNeg) (u1 + u0)))) n b l t), z)) rfl).trans ?_
  refine (jev_grd (q := jout ((6 * x1) + x4) 138) (pc' := 43) (L' := ([some (.ref 79), some (.int x1), some (.int x2), some (.int x3), some (.int x4), d5, d6], [])) (S' := [.int (g 22 ((6 * x1) + x4).toNatClampNeg), .int ((6 * x1) + x4), .ref 104]) (h' := (jXt cx (jY f (jup g 17 ((jup (g 17) (u2.toNatClampNeg) (u1 + u0)))) n b l t), z)) rfl).trans (jite_congr (fun _ => rfl) (fun _ => ?_))
  exact jev_blk 2 rfl
set_option maxRecDepth 20000 in
theorem E_m_flaps_51 {D : Nat}  {x1 : Int32} {x2 : Int32} {x3 : Int32} {x4 : Int32} {d5 : Option Value} {x6 : Int32} {u0 : Int32} {u1 : Int32} {cx : jCX} {f : Nat → Int32} {g : Nat → Nat → Int32} {n : Nat → Nat → Int64} {b : Nat → Nat → Int32} {l : Nat → Int64} {t : List jE} {z : Nat × Nat × Nat × (Nat → Int32)}  : jev D 198 51 ([some (.ref 79), some (.int x1), some (.int x2), some (.int x3), some (.int x4), d5, some (.int x6)], []) [.int u0, .int u1] (jXt cx (jY f g n b l t), z) = if u1 < u0 then (jbO (K_m_isSeen D x1 x4 x6 cx f g n b l t z) (jk D 198 58 ([some (.ref 79), some (.int x1), some (.int x2), some (.int x3), some (.int x4), d5, some (.int x6)], []) [.int x3])) else (K_m_flaps_68 D x1 x2 x3 x4 d5 (some (.int x6)) cx f g n b l t z) := by
  refine (jev_blk 1 (pc' := if u1 < u0 then 52 else 68) (L' := ([some (.ref 79), some (.int x1), some (.int x2), some (.int x3), some (.int x4), d5, some (.int x6)], [])) (S' := []) (h' := (jXt cx (jY f g n b l t), z)) rfl).trans (jev_ite.trans (jite_congr (fun _ => ?_) (fun _ => ?_)))
  · refine (jev_blk 5 (pc' := 57) (L' := ([some (.ref 79), some (.int x1), some (.int x2), some (.int x3), some (.int x4), d5, some (.int x6)], [])) (S' := [.int x6, .int x4, .int x1, .ref 79, .int x3]) (h' := (jXt cx (jY f g n b l t), z)) rfl).trans ?_
    exact jev_callb (nx := 58) (rest := [.int x3]) rfl
  · rfl
set_option maxRecDepth 20000 in
theorem E_m_flaps_45 {D : Nat}  {x1 : Int32} {x2 : Int32} {x3 : Int32} {x4 : Int32} {d5 : Option Value} {d6 : Option Value} {u0 : Int32} {u1 : Int32} {cx : jCX} {f : Nat → Int32} {g : Nat → Nat → Int32} {n : Nat → Nat → Int64} {b : Nat → Nat → Int32} {l : Nat → Int64} {t : List jE} {z : Nat × Nat × Nat × (Nat → Int32)}  : jev D 198 45 ([some (.ref 79), some (.int x1), some (.int x2), some (.int x3), some (.int x4), d5, d6], []) [.int u0, .int u1, .ref 104] (jXt cx (jY f g n b l t), z) = if jout u1 138 then none else (K_m_flaps_46 D x1 x2 x3 x4 d5 d6 cx f (jup g 22 ((jup (g 22) (u1.toNatClampNeg) u0))) n b l t z) := by
  refine (jev_grd (q := jout u1 138) (pc' := 46) (L' := ([some (.ref 79), some (.int x1), some (.int x2), some (.int x3), some (.int x4), d5, d6], [])) (S' := []) (h' := (jXt cx (jY f (jup g 22 ((jup (g 22) (u1.toNatClampNeg) u0))) n b l t), z)) rfl).trans (jite_congr (fun _ => rfl) (fun _ => ?_))
  rfl
set_option maxRecDepth 20000 in
theorem E_m_flaps_58 {D : Nat}  {x1 : Int32} {x2 : Int32} {d3 : Option Value} {x4 : Int32} {d5 : Option Value} {x6 : Int32} {u0 : Int32} {u1 : Int32} {cx : jCX} {f : Nat → Int32} {g : Nat → Nat → Int32} {n : Nat → Nat → Int64} {b : Nat → Nat → Int32} {l : Nat → Int64} {t : List jE} {z : Nat × Nat × Nat × (Nat → Int32)}  : jev D 198 58 ([some (.ref 79), some (.int x1), some (.int x2), d3, some (.int x4), d5, some (.int x6)], []) [.int u0, .int u1] (jXt cx (jY f g n b l t), z) = if u0 = 0 then (K_m_flaps_64 D x1 x2 d3 x4 d5 x6 0 u1 cx f g n b l t z) else (K_m_flaps_64 D x1 x2 d3 x4 d5 x6 (1 <<< (x6 &&& 31)) u1 cx f g n b l t z) := by
  refine (jev_blk 1 (pc' := if u0 = 0 then 63 else 59) (L' := ([some (.ref 79), some (.int x1), some (.int x2), d3, some (.int x4), d5, some (.int x6)], [])) (S' := [.int u1]) (h' := (jXt cx (jY f g n b l t), z)) rfl).trans (jev_ite.trans (jite_congr (fun _ => ?_) (fun _ => ?_)))
  · exact jev_blk 1 rfl
  · exact jev_blk 4 rfl
set_option maxRecDepth 20000 in
theorem E_m_flaps_64 {D : Nat}  {x1 : Int32} {x2 : Int32} {d3 : Option Value} {x4 : Int32} {d5 : Option Value} {x6 : Int32} {u0 : Int32} {u1 : Int32} {cx : jCX} {f : Nat → Int32} {g : Nat → Nat → Int32} {n : Nat → Nat → Int64} {b : Nat → Nat → Int32} {l : Nat → Int64} {t : List jE} {z : Nat × Nat × Nat × (Nat → Int32)}  : K_m_flaps_64 D x1 x2 d3 x4 d5 x6 u0 u1 cx f g n b l t z = K_m_flaps_48 D x1 x2 (u1 ||| u0) x4 d5 (x6 + 1) cx f g n b l t z := by
  exact jev_blk 4 rfl
set_option maxRecDepth 20000 in
theorem E_m_comes {D : Nat}  {a0 : Int32} {cx : jCX} {f : Nat → Int32} {g : Nat → Nat → Int32} {n : Nat → Nat → Int64} {b : Nat → Nat → Int32} {l : Nat → Int64} {t : List jE} {z : Nat × Nat × Nat × (Nat → Int32)}  : K_m_comes D a0 cx f g n b l t z = if (f 19) = 0 then (K_m_comes_16 D a0 none none none none 0 cx f g n b l t z) else (if jout a0 23 then none else (if jout ((12 * a0) + (g 15 a0.toNatClampNeg)) 276 then none else (K_m_comes_16 D a0 none none none none (g 21 ((12 * a0) + (g 15 a0.toNatClampNeg)).toNatClampNeg) cx f g n b l t z))) := by
  refine (jev_blk 3 (pc' := if (f 19) = 0 then 3 else 5) (L' := ([some (.ref 79), some (.int a0), none, none, none, none], [])) (S' := []) (h' := (jXt cx (jY f g n b l t), z)) rfl).trans (jev_ite.trans (jite_congr (fun _ => ?_) (fun _ => ?_)))
  · exact jev_blk 2 rfl
  · refine (jev_blk 8 (pc' := 13) (L' := ([some (.ref 79), some (.int a0), none, none, none, none], [])) (S' := [.int a0, .ref 97, .int (12 * a0), .ref 103]) (h' := (jXt cx (jY f g n b l t), z)) rfl).trans ?_
    refine (jev_grd (q := jout a0 23) (pc' := 14) (L' := ([some (.ref 79), some (.int a0), none, none, none, none], [])) (S' := [.int (g 15 a0.toNatClampNeg), .int (12 * a0), .ref 103]) (h' := (jXt cx (jY f g n b l t), z)) rfl).trans (jite_congr (fun _ => rfl) (fun _ => ?_))
    refine (jev_blk 1 (pc' := 15) (L' := ([some (.ref 79), some (.int a0), none, none, none, none], [])) (S' := [.int ((12 * a0) + (g 15 a0.toNatClampNeg)), .ref 103]) (h' := (jXt cx (jY f g n b l t), z)) rfl).trans ?_
    refine (jev_grd (q := jout ((12 * a0) + (g 15 a0.toNatClampNeg)) 276) (pc' := 16) (L' := ([some (.ref 79), some (.int a0), none, none, none, none], [])) (S' := [.int (g 21 ((12 * a0) + (g 15 a0.toNatClampNeg)).toNatClampNeg)]) (h' := (jXt cx (jY f g n b l t), z)) rfl).trans (jite_congr (fun _ => rfl) (fun _ => ?_))
    rfl
set_option maxRecDepth 20000 in
theorem E_m_comes_16 {D : Nat}  {x1 : Int32} {d2 : Option Value} {d3 : Option Value} {d4 : Option Value} {d5 : Option Value} {u0 : Int32} {cx : jCX} {f : Nat → Int32} {g : Nat → Nat → Int32} {n : Nat → Nat → Int64} {b : Nat → Nat → Int32} {l : Nat → Int64} {t : List jE} {z : Nat × Nat × Nat × (Nat → Int32)}  : K_m_comes_16 D x1 d2 d3 d4 d5 u0 cx f g n b l t z = K_m_comes_21 D x1 u0 (-1) 0 d5 cx f g n b l t z := by
  exact jev_blk 5 rfl
set_option maxRecDepth 20000 in
theorem L_m_comes_21 {D : Nat}  {x1 : Int32} {x2 : Int32} {x3 : Int32} {x4 : Int32} {d5 : Option Value} {cx : jCX} {f : Nat → Int32} {g : Nat → Nat → Int32} {n : Nat → Nat → Int64} {b : Nat → Nat → Int32} {l : Nat → Int64} {t : List jE} {z : Nat × Nat × Nat × (Nat → Int32)}  : K_m_comes_21 D x1 x2 x3 x4 d5 cx f g n b l t z = jbO (K_m_cells D cx f g n b l t z) (jk D 199 24 ([some (.ref 79), some (.int x1), some (.int x2), some (.int x3), some (.int x4), d5], []) [.int x4]) := by
  refine (jev_blk 2 (pc' := 23) (L' := ([some (.ref 79), some (.int x1), some (.int x2), some (.int x3), some (.int x4), d5], [])) (S' := [.ref 79, .int x4]) (h' := (jXt cx (jY f g n b l t), z)) rfl).trans ?_
  exact jev_callb (nx := 24) (rest := [.int x4]) rfl
set_option maxRecDepth 20000 in
theorem E_m_comes_24 {D : Nat}  {x1 : Int32} {x2 : Int32} {x3 : Int32} {x4 : Int32} {d5 : Option Value} {u0 : Int32} {u1 : Int32} {cx : jCX} {f : Nat → Int32} {g : Nat → Nat → Int32} {n : Nat → Nat → Int64} {b : Nat → Nat → Int32} {l : Nat → Int64} {t : List jE} {z : Nat × Nat × Nat × (Nat → Int32)}  : jev D 199 24 ([some (.ref 79), some (.int x1), some (.int x2), some (.int x3), some (.int x4), d5], []) [.int u0, .int u1] (jXt cx (jY f g n b l t), z) = if u1 < u0 then (if jout ((30 * x1) + x4) 690 then none else (if 0 < (g 20 ((30 * x1) + x4).toNatClampNeg) then (if ((x2 >>> (x4 &&& 31)) &&& 1) = 0 then (if x3 = (-1) then (K_m_comes_55 D x1 x2 (some (.int x3)) x4 (some (.int (g 20 ((30 * x1) + x4).toNatClampNeg))) cx f g n b l t z) else (if jout ((30 * x1) + x3) 690 then none else (if (g 20 ((30 * x1) + x3).toNatClampNeg) < (g 20 ((30 * x1) + x4).toNatClampNeg) then (K_m_comes_55 D x1 x2 (some (.int x3)) x4 (some (.int (g 20 ((30 * x1) + x4).toNatClampNeg))) cx f g n b l t z) else (K_m_comes_57 D x1 x2 x3 x4 (some (.int (g 20 ((30 * x1) + x4).toNatClampNeg))) cx f g n b l t z)))) else (K_m_comes_57 D x1 x2 x3 x4 (some (.int (g 20 ((30 * x1) + x4).toNatClampNeg))) cx f g n b l t z)) else (K_m_comes_57 D x1 x2 x3 x4 (some (.int (g 20 ((30 * x1) + x4).toNatClampNeg))) cx f g n b l t z))) else (some (.inl (some (.int x3)), (jXt cx (jY f g n b l t), z))) := by
  refine (jev_blk 1 (pc' := if u1 < u0 then 25 else 59) (L' := ([some (.ref 79), some (.int x1), some (.int x2), some (.int x3), some (.int x4), d5], [])) (S' := []) (h' := (jXt cx (jY f g n b l t), z)) rfl).trans (jev_ite.trans (jite_congr (fun _ => ?_) (fun _ => ?_)))
  · refine (jev_blk 7 (pc' := 32) (L' := ([some (.ref 79), some (.int x1), some (.int x2), some (.int x3), some (.int x4), d5], [])) (S' := [.int ((30 * x1) + x4), .ref 102]) (h' := (jXt cx (jY f g n b l t), z)) rfl).trans ?_
    refine (jev_grd (q := jout ((30 * x1) + x4) 690) (pc' := 33) (L' := ([some (.ref 79), some (.int x1), some (.int x2), some (.int x3), some (.int x4), d5], [])) (S' := [.int (g 20 ((30 * x1) + x4).toNatClampNeg)]) (h' := (jXt cx (jY f g n b l t), z)) rfl).trans (jite_congr (fun _ => rfl) (fun _ => ?_))
    refine (jev_blk 3 (pc' := if 0 < (g 20 ((30 * x1) + x4).toNatClampNeg) then 36 else 57) (L' := ([some (.ref 79), some (.int x1), some (.int x2), some (.int x3), some (.int x4), some (.int (g 20 ((30 * x1) + x4).toNatClampNeg))], [])) (S' := []) (h' := (jXt cx (jY f g n b l t), z)) rfl).trans (jev_ite.trans (jite_congr (fun _ => ?_) (fun _ => ?_)))
    · refine (jev_blk 6 (pc' := if ((x2 >>> (x4 &&& 31)) &&& 1) = 0 then 42 else 57) (L' := ([some (.ref 79), some (.int x1), some (.int x2), some (.int x3), some (.int x4), some (.int (g 20 ((30 * x1) + x4).toNatClampNeg))], [])) (S' := []) (h' := (jXt cx (jY f g n b l t), z)) rfl).trans (jev_ite.trans (jite_congr (fun _ => ?_) (fun _ => ?_)))
      · refine (jev_blk 3 (pc' := if x3 = (-1) then 55 else 45) (L' := ([some (.ref 79), some (.int x1), some (.int x2), some (.int x3), some (.int x4), some (.int (g 20 ((30 * x1) + x4).toNatClampNeg))], [])) (S' := []) (h' := (jXt cx (jY f g n b l t), z)) rfl).trans (jev_ite.trans (jite_congr (fun _ => ?_) (fun _ => ?_)))
        · rfl
        · refine (jev_blk 8 (pc' := 53) (L' := ([some (.ref 79), some (.int x1), some (.int x2), some (.int x3), some (.int x4), some (.int (g 20 ((30 * x1) + x4).toNatClampNeg))], [])) (S' := [.int ((30 * x1) + x3), .ref 102, .int (g 20 ((30 * x1) + x4).toNatClampNeg)]) (h' := (jXt cx (jY f g n b l t), z)) rfl).trans ?_
          refine (jev_grd (q := jout ((30 * x1) + x3) 690) (pc' := 54) (L' := ([some (.ref 79), some (.int x1), some (.int x2), some (.int x3), some (.int x4), some (.int (g 20 ((30 * x1) + x4).toNatClampNeg))], [])) (S' := [.int (g 20 ((30 * x1) + x3).toNatClampNeg), .int (g 20 ((30 * x1) + x4).toNatClampNeg)]) (h' := (jXt cx (jY f g n b l t), z)) rfl).trans (jite_congr (fun _ => rfl) (fun _ => ?_))
          refine (jev_blk 1 (pc' := if (g 20 ((30 * x1) + x3).toNatClampNeg) < (g 20 ((30 * x1) + x4).toNatClampNeg) then 55 else 57) (L' := ([some (.ref 79), some (.int x1), some (.int x2), some (.int x3), some (.int x4), some (.int (g 20 ((30 * x1) + x4).toNatClampNeg))], [])) (S' := []) (h' := (jXt cx (jY f g n b l t), z)) rfl).trans (jev_ite.trans (jite_congr (fun _ => ?_) (fun _ => ?_)))
          · rfl
          · rfl
      · rfl
    · rfl
  · refine (jev_blk 1 (pc' := 60) (L' := ([some (.ref 79), some (.int x1), some (.int x2), some (.int x3), some (.int x4), d5], [])) (S' := [.int x3]) (h' := (jXt cx (jY f g n b l t), z)) rfl).trans ?_
    exact jev_fin rfl
set_option maxRecDepth 20000 in
theorem E_m_comes_55 {D : Nat}  {x1 : Int32} {x2 : Int32} {d3 : Option Value} {x4 : Int32} {d5 : Option Value} {cx : jCX} {f : Nat → Int32} {g : Nat → Nat → Int32} {n : Nat → Nat → Int64} {b : Nat → Nat → Int32} {l : Nat → Int64} {t : List jE} {z : Nat × Nat × Nat × (Nat → Int32)}  : K_m_comes_55 D x1 x2 d3 x4 d5 cx f g n b l t z = K_m_comes_57 D x1 x2 x4 x4 d5 cx f g n b l t z := by
  exact jev_blk 2 rfl
set_option maxRecDepth 20000 in
theorem E_m_comes_57 {D : Nat}  {x1 : Int32} {x2 : Int32} {x3 : Int32} {x4 : Int32} {d5 : Option Value} {cx : jCX} {f : Nat → Int32} {g : Nat → Nat → Int32} {n : Nat → Nat → Int64} {b : Nat → Nat → Int32} {l : Nat → Int64} {t : List jE} {z : Nat × Nat × Nat × (Nat → Int32)}  : K_m_comes_57 D x1 x2 x3 x4 d5 cx f g n b l t z = K_m_comes_21 D x1 x2 x3 (x4 + 1) d5 cx f g n b l t z := by
  exact jev_blk 2 rfl
set_option maxRecDepth 20000 in
theorem E_m_passes {D : Nat}  {a0 : Int32} {cx : jCX} {f : Nat → Int32} {g : Nat → Nat → Int32} {n : Nat → Nat → Int64} {b : Nat → Nat → Int32} {l : Nat → Int64} {t : List jE} {z : Nat × Nat × Nat × (Nat → Int32)}  : K_m_passes D a0 cx f g n b l t z = jbO (K_m_flaps D a0 1 cx f g n b l t z) (jk D 200 4 ([some (.ref 79), some (.int a0), none, none, none], []) []) := by
  refine (jev_blk 3 (pc' := 3) (L' := ([some (.ref 79), some (.int a0), none, none, none], [])) (S' := [.int 1, .int a0, .ref 79]) (h' := (jXt cx (jY f g n b l t), z)) rfl).trans ?_
  exact jev_callb (nx := 4) (rest := []) rfl
set_option maxRecDepth 20000 in
theorem E_m_passes_4 {D : Nat}  {x1 : Int32} {d2 : Option Value} {d3 : Option Value} {d4 : Option Value} {u0 : Int32} {cx : jCX} {f : Nat → Int32} {g : Nat → Nat → Int32} {n : Nat → Nat → Int64} {b : Nat → Nat → Int32} {l : Nat → Int64} {t : List jE} {z : Nat × Nat × Nat × (Nat → Int32)}  : jev D 200 4 ([some (.ref 79), some (.int x1), d2, d3, d4], []) [.int u0] (jXt cx (jY f g n b l t), z) = jbO (K_m_comes D x1 cx f g n b l t z) (jk D 200 8 ([some (.ref 79), some (.int x1), some (.int u0), d3, d4], []) []) := by
  refine (jev_blk 3 (pc' := 7) (L' := ([some (.ref 79), some (.int x1), some (.int u0), d3, d4], [])) (S' := [.int x1, .ref 79]) (h' := (jXt cx (jY f g n b l t), z)) rfl).trans ?_
  exact jev_callb (nx := 8) (rest := []) rfl
set_option maxRecDepth 20000 in
theorem E_m_passes_8 {D : Nat}  {x1 : Int32} {x2 : Int32} {d3 : Option Value} {d4 : Option Value} {u0 : Int32} {cx : jCX} {f : Nat → Int32} {g : Nat → Nat → Int32} {n : Nat → Nat → Int64} {b : Nat → Nat → Int32} {l : Nat → Int64} {t : List jE} {z : Nat × Nat × Nat × (Nat → Int32)}  : jev D 200 8 ([some (.ref 79), some (.int x1), some (.int x2), d3, d4], []) [.int u0] (jXt cx (jY f g n b l t), z) = if u0 = (-1) then (K_m_passes_28 D x1 x2 u0 d4 cx f g n b l t z) else (if ((x2 >>> (u0 &&& 31)) &&& 1) = 1 then (if jout x1 23 then none else (if jout x1 23 then none else (K_m_passes_56 D x1 x2 (some (.int u0)) d4 cx f (jup g 18 ((jup (g 18) (x1.toNatClampNeg) ((g 18 x1.toNatClampNeg) + 1)))) n b l t z))) else (K_m_passes_28 D x1 x2 u0 d4 cx f g n b l t z)) := by
  refine (jev_blk 4 (pc' := if u0 = (-1) then 28 else 12) (L' := ([some (.ref 79), some (.int x1), some (.int x2), some (.int u0), d4], [])) (S' := []) (h' := (jXt cx (jY f g n b l t), z)) rfl).trans (jev_ite.trans (jite_congr (fun _ => ?_) (fun _ => ?_)))
  · rfl
  · refine (jev_blk 7 (pc' := if ((x2 >>> (u0 &&& 31)) &&& 1) = 1 then 19 else 28) (L' := ([some (.ref 79), some (.int x1), some (.int x2), some (.int u0), d4], [])) (S' := []) (h' := (jXt cx (jY f g n b l t), z)) rfl).trans (jev_ite.trans (jite_congr (fun _ => ?_) (fun _ => ?_)))
    · refine (jev_blk 4 (pc' := 23) (L' := ([some (.ref 79), some (.int x1), some (.int x2), some (.int u0), d4], [])) (S' := [.int x1, .ref 100, .int x1, .ref 100]) (h' := (jXt cx (jY f g n b l t), z)) rfl).trans ?_
      refine (jev_grd (q := jout x1 23) (pc' := 24) (L' := ([some (.ref 79), some (.int x1), some (.int x2), some (.int u0), d4], [])) (S' := [.int (g 18 x1.toNatClampNeg), .int x1, .ref 100]) (h' := (jXt cx (jY f g n b l t), z)) rfl).trans (jite_congr (fun _ => rfl) (fun _ => ?_))
      refine (jev_blk 2 (pc' := 26) (L' := ([some (.ref 79), some (.int x1), some (.int x2), some (.int u0), d4], [])) (S' := [.int ((g 18 x1.toNatClampNeg) + 1), .int x1, .ref 100]) (h' := (jXt cx (jY f g n b l t), z)) rfl).trans ?_
      refine (jev_grd (q := jout x1 23) (pc' := 27) (L' := ([some (.ref 79), some (.int x1), some (.int x2), some (.int u0), d4], [])) (S' := []) (h' := (jXt cx (jY f (jup g 18 ((jup (g 18) (x1.toNatClampNeg) ((g 18 x1.toNatClampNeg) + 1)))) n b l t), z)) rfl).trans (jite_congr (fun _ => rfl) (fun _ => ?_))
      exact jev_blk 1 rfl
    · rfl
set_option maxRecDepth 20000 in
theorem E_m_passes_28 {D : Nat}  {x1 : Int32} {x2 : Int32} {x3 : Int32} {d4 : Option Value} {cx : jCX} {f : Nat → Int32} {g : Nat → Nat → Int32} {n : Nat → Nat → Int64} {b : Nat → Nat → Int32} {l : Nat → Int64} {t : List jE} {z : Nat × Nat × Nat × (Nat → Int32)}  : K_m_passes_28 D x1 x2 x3 d4 cx f g n b l t z = if x3 = (-1) then (K_m_passes_56 D x1 x2 (some (.int x3)) d4 cx f g n b l t z) else (jbO (K_m_eats D x1 x3 cx f g n b l t z) (jk D 200 35 ([some (.ref 79), some (.int x1), some (.int x2), some (.int x3), d4], []) [])) := by
  refine (jev_blk 3 (pc' := if x3 = (-1) then 56 else 31) (L' := ([some (.ref 79), some (.int x1), some (.int x2), some (.int x3), d4], [])) (S' := []) (h' := (jXt cx (jY f g n b l t), z)) rfl).trans (jev_ite.trans (jite_congr (fun _ => ?_) (fun _ => ?_)))
  · rfl
  · refine (jev_blk 3 (pc' := 34) (L' := ([some (.ref 79), some (.int x1), some (.int x2), some (.int x3), d4], [])) (S' := [.int x3, .int x1, .ref 79]) (h' := (jXt cx (jY f g n b l t), z)) rfl).trans ?_
    exact jev_callb (nx := 35) (rest := []) rfl
set_option maxRecDepth 20000 in
theorem E_m_passes_56 {D : Nat}  {x1 : Int32} {x2 : Int32} {d3 : Option Value} {d4 : Option Value} {cx : jCX} {f : Nat → Int32} {g : Nat → Nat → Int32} {n : Nat → Nat → Int64} {b : Nat → Nat → Int32} {l : Nat → Int64} {t : List jE} {z : Nat × Nat × Nat × (Nat → Int32)}  : K_m_passes_56 D x1 x2 d3 d4 cx f g n b l t z = if jout x1 23 then none else (jev D 200 67 ([some (.ref 79), some (.int x1), some (.int x2), d3, d4], []) [.int x2, .int ((12 * x1) + (g 15 x1.toNatClampNeg)), .ref 103] (jXt cx (jY f g n b l t), z)) := by
  refine (jev_blk 8 (pc' := 64) (L' := ([some (.ref 79), some (.int x1), some (.int x2), d3, d4], [])) (S' := [.int x1, .ref 97, .int (12 * x1), .ref 103]) (h' := (jXt cx (jY f g n b l t), z)) rfl).trans ?_
  refine (jev_grd (q := jout x1 23) (pc' := 65) (L' := ([some (.ref 79), some (.int x1), some (.int x2), d3, d4], [])) (S' := [.int (g 15 x1.toNatClampNeg), .int (12 * x1), .ref 103]) (h' := (jXt cx (jY f g n b l t), z)) rfl).trans (jite_congr (fun _ => rfl) (fun _ => ?_))
  exact jev_blk 2 rfl
set_option maxRecDepth 20000 in
theorem E_m_passes_35 {D : Nat}  {x1 : Int32} {x2 : Int32} {x3 : Int32} {d4 : Option Value} {u0 : Int32} {cx : jCX} {f : Nat → Int32} {g : Nat → Nat → Int32} {n : Nat → Nat → Int64} {b : Nat → Nat → Int32} {l : Nat → Int64} {t : List jE} {z : Nat × Nat × Nat × (Nat → Int32)}  : jev D 200 35 ([some (.ref 79), some (.int x1), some (.int x2), some (.int x3), d4], []) [.int u0] (jXt cx (jY f g n b l t), z) = if jout ((30 * x1) + x3) 690 then none else (jev D 200 47 ([some (.ref 79), some (.int x1), some (.int x2), some (.int x3), some (.int u0)], []) [.int ((g 20 ((30 * x1) + x3).toNatClampNeg) - u0), .int ((30 * x1) + x3), .ref 102] (jXt cx (jY f g n b l t), z)) := by
  refine (jev_blk 9 (pc' := 44) (L' := ([some (.ref 79), some (.int x1), some (.int x2), some (.int x3), some (.int u0)], [])) (S' := [.int ((30 * x1) + x3), .ref 102, .int ((30 * x1) + x3), .ref 102]) (h' := (jXt cx (jY f g n b l t), z)) rfl).trans ?_
  refine (jev_grd (q := jout ((30 * x1) + x3) 690) (pc' := 45) (L' := ([some (.ref 79), some (.int x1), some (.int x2), some (.int x3), some (.int u0)], [])) (S' := [.int (g 20 ((30 * x1) + x3).toNatClampNeg), .int ((30 * x1) + x3), .ref 102]) (h' := (jXt cx (jY f g n b l t), z)) rfl).trans (jite_congr (fun _ => rfl) (fun _ => ?_))
  exact jev_blk 2 rfl
set_option maxRecDepth 20000 in
theorem E_m_passes_67 {D : Nat}  {x1 : Int32} {d2 : Option Value} {d3 : Option Value} {d4 : Option Value} {u0 : Int32} {u1 : Int32} {cx : jCX} {f : Nat → Int32} {g : Nat → Nat → Int32} {n : Nat → Nat → Int64} {b : Nat → Nat → Int32} {l : Nat → Int64} {t : List jE} {z : Nat × Nat × Nat × (Nat → Int32)}  : jev D 200 67 ([some (.ref 79), some (.int x1), d2, d3, d4], []) [.int u0, .int u1, .ref 103] (jXt cx (jY f g n b l t), z) = if jout u1 276 then none else (if jout x1 23 then none else (jev D 200 75 ([some (.ref 79), some (.int x1), d2, d3, d4], []) [.int ((g 15 x1.toNatClampNeg) + 1), .int x1, .ref 97] (jXt cx (jY f (jup g 21 ((jup (g 21) (u1.toNatClampNeg) u0))) n b l t), z))) := by
  refine (jev_grd (q := jout u1 276) (pc' := 68) (L' := ([some (.ref 79), some (.int x1), d2, d3, d4], [])) (S' := []) (h' := (jXt cx (jY f (jup g 21 ((jup (g 21) (u1.toNatClampNeg) u0))) n b l t), z)) rfl).trans (jite_congr (fun _ => rfl) (fun _ => ?_))
  refine (jev_blk 4 (pc' := 72) (L' := ([some (.ref 79), some (.int x1), d2, d3, d4], [])) (S' := [.int x1, .ref 97, .int x1, .ref 97]) (h' := (jXt cx (jY f (jup g 21 ((jup (g 21) (u1.toNatClampNeg) u0))) n b l t), z)) rfl).trans ?_
  refine (jev_grd (q := jout x1 23) (pc' := 73) (L' := ([some (.ref 79), some (.int x1), d2, d3, d4], [])) (S' := [.int (g 15 x1.toNatClampNeg), .int x1, .ref 97]) (h' := (jXt cx (jY f (jup g 21 ((jup (g 21) (u1.toNatClampNeg) u0))) n b l t), z)) rfl).trans (jite_congr (fun _ => rfl) (fun _ => ?_))
  exact jev_blk 2 rfl
set_option maxRecDepth 20000 in
theorem E_m_passes_47 {D : Nat}  {x1 : Int32} {x2 : Int32} {d3 : Option Value} {x4 : Int32} {u0 : Int32} {u1 : Int32} {cx : jCX} {f : Nat → Int32} {g : Nat → Nat → Int32} {n : Nat → Nat → Int64} {b : Nat → Nat → Int32} {l : Nat → Int64} {t : List jE} {z : Nat × Nat × Nat × (Nat → Int32)}  : jev D 200 47 ([some (.ref 79), some (.int x1), some (.int x2), d3, some (.int x4)], []) [.int u0, .int u1, .ref 102] (jXt cx (jY f g n b l t), z) = if jout u1 690 then none else (if jout x1 23 then none else (jev D 200 55 ([some (.ref 79), some (.int x1), some (.int x2), d3, some (.int x4)], []) [.int ((g 16 x1.toNatClampNeg) + x4), .int x1, .ref 98] (jXt cx (jY f (jup g 20 ((jup (g 20) (u1.toNatClampNeg) u0))) n b l t), z))) := by
  refine (jev_grd (q := jout u1 690) (pc' := 48) (L' := ([some (.ref 79), some (.int x1), some (.int x2), d3, some (.int x4)], [])) (S' := []) (h' := (jXt cx (jY f (jup g 20 ((jup (g 20) (u1.toNatClampNeg) u0))) n b l t), z)) rfl).trans (jite_congr (fun _ => rfl) (fun _ => ?_))
  refine (jev_blk 4 (pc' := 52) (L' := ([some (.ref 79), some (.int x1), some (.int x2), d3, some (.int x4)], [])) (S' := [.int x1, .ref 98, .int x1, .ref 98]) (h' := (jXt cx (jY f (jup g 20 ((jup (g 20) (u1.toNatClampNeg) u0))) n b l t), z)) rfl).trans ?_
  refine (jev_grd (q := jout x1 23) (pc' := 53) (L' := ([some (.ref 79), some (.int x1), some (.int x2), d3, some (.int x4)], [])) (S' := [.int (g 16 x1.toNatClampNeg), .int x1, .ref 98]) (h' := (jXt cx (jY f (jup g 20 ((jup (g 20) (u1.toNatClampNeg) u0))) n b l t), z)) rfl).trans (jite_congr (fun _ => rfl) (fun _ => ?_))
  exact jev_blk 2 rfl
set_option maxRecDepth 20000 in
theorem E_m_passes_75 {D : Nat}  {x1 : Int32} {d2 : Option Value} {d3 : Option Value} {d4 : Option Value} {u0 : Int32} {u1 : Int32} {cx : jCX} {f : Nat → Int32} {g : Nat → Nat → Int32} {n : Nat → Nat → Int64} {b : Nat → Nat → Int32} {l : Nat → Int64} {t : List jE} {z : Nat × Nat × Nat × (Nat → Int32)}  : jev D 200 75 ([some (.ref 79), some (.int x1), d2, d3, d4], []) [.int u0, .int u1, .ref 97] (jXt cx (jY f g n b l t), z) = if jout u1 23 then none else (if jout x1 23 then none else (if ((jup (g 15) (u1.toNatClampNeg) u0) x1.toNatClampNeg) < 12 then (some (.inl (none), (jXt cx (jY f (jup g 15 ((jup (g 15) (u1.toNatClampNeg) u0))) n b l t), z))) else (jev D 200 87 ([some (.ref 79), some (.int x1), d2, d3, d4], []) [.int 0, .int x1, .ref 97] (jXt cx (jY f (jup g 15 ((jup (g 15) (u1.toNatClampNeg) u0))) n b l t), z)))) := by
  refine (jev_grd (q := jout u1 23) (pc' := 76) (L' := ([some (.ref 79), some (.int x1), d2, d3, d4], [])) (S' := []) (h' := (jXt cx (jY f (jup g 15 ((jup (g 15) (u1.toNatClampNeg) u0))) n b l t), z)) rfl).trans (jite_congr (fun _ => rfl) (fun _ => ?_))
  refine (jev_blk 3 (pc' := 79) (L' := ([some (.ref 79), some (.int x1), d2, d3, d4], [])) (S' := [.int x1, .ref 97]) (h' := (jXt cx (jY f (jup g 15 ((jup (g 15) (u1.toNatClampNeg) u0))) n b l t), z)) rfl).trans ?_
  refine (jev_grd (q := jout x1 23) (pc' := 80) (L' := ([some (.ref 79), some (.int x1), d2, d3, d4], [])) (S' := [.int ((jup (g 15) (u1.toNatClampNeg) u0) x1.toNatClampNeg)]) (h' := (jXt cx (jY f (jup g 15 ((jup (g 15) (u1.toNatClampNeg) u0))) n b l t), z)) rfl).trans (jite_congr (fun _ => rfl) (fun _ => ?_))
  refine (jev_blk 2 (pc' := if ((jup (g 15) (u1.toNatClampNeg) u0) x1.toNatClampNeg) < 12 then 82 else 83) (L' := ([some (.ref 79), some (.int x1), d2, d3, d4], [])) (S' := []) (h' := (jXt cx (jY f (jup g 15 ((jup (g 15) (u1.toNatClampNeg) u0))) n b l t), z)) rfl).trans (jev_ite.trans (jite_congr (fun _ => ?_) (fun _ => ?_)))
  · exact jev_fin rfl
  · exact jev_blk 4 rfl
set_option maxRecDepth 20000 in
theorem E_m_passes_55 {D : Nat}  {x1 : Int32} {x2 : Int32} {d3 : Option Value} {d4 : Option Value} {u0 : Int32} {u1 : Int32} {cx : jCX} {f : Nat → Int32} {g : Nat → Nat → Int32} {n : Nat → Nat → Int64} {b : Nat → Nat → Int32} {l : Nat → Int64} {t : List jE} {z : Nat × Nat × Nat × (Nat → Int32)}  : jev D 200 55 ([some (.ref 79), some (.int x1), some (.int x2), d3, d4], []) [.int u0, .int u1, .ref 98] (jXt cx (jY f g n b l t), z) = if jout u1 23 then none else (K_m_passes_56 D x1 x2 d3 d4 cx f (jup g 16 ((jup (g 16) (u1.toNatClampNeg) u0))) n b l t z) := by
  refine (jev_grd (q := jout u1 23) (pc' := 56) (L' := ([some (.ref 79), some (.int x1), some (.int x2), d3, d4], [])) (S' := []) (h' := (jXt cx (jY f (jup g 16 ((jup (g 16) (u1.toNatClampNeg) u0))) n b l t), z)) rfl).trans (jite_congr (fun _ => rfl) (fun _ => ?_))
  rfl
set_option maxRecDepth 20000 in
theorem E_m_passes_87 {D : Nat}  {x1 : Int32} {d2 : Option Value} {d3 : Option Value} {d4 : Option Value} {u0 : Int32} {u1 : Int32} {cx : jCX} {f : Nat → Int32} {g : Nat → Nat → Int32} {n : Nat → Nat → Int64} {b : Nat → Nat → Int32} {l : Nat → Int64} {t : List jE} {z : Nat × Nat × Nat × (Nat → Int32)}  : jev D 200 87 ([some (.ref 79), some (.int x1), d2, d3, d4], []) [.int u0, .int u1, .ref 97] (jXt cx (jY f g n b l t), z) = if jout u1 23 then none else (if jout x1 23 then none else (jev D 200 95 ([some (.ref 79), some (.int x1), d2, d3, d4], []) [.int ((g 14 x1.toNatClampNeg) + 1), .int x1, .ref 96] (jXt cx (jY f (jup g 15 ((jup (g 15) (u1.toNatClampNeg) u0))) n b l t), z))) := by
  refine (jev_grd (q := jout u1 23) (pc' := 88) (L' := ([some (.ref 79), some (.int x1), d2, d3, d4], [])) (S' := []) (h' := (jXt cx (jY f (jup g 15 ((jup (g 15) (u1.toNatClampNeg) u0))) n b l t), z)) rfl).trans (jite_congr (fun _ => rfl) (fun _ => ?_))
  refine (jev_blk 4 (pc' := 92) (L' := ([some (.ref 79), some (.int x1), d2, d3, d4], [])) (S' := [.int x1, .ref 96, .int x1, .ref 96]) (h' := (jXt cx (jY f (jup g 15 ((jup (g 15) (u1.toNatClampNeg) u0))) n b l t), z)) rfl).trans ?_
  refine (jev_grd (q := jout x1 23) (pc' := 93) (L' := ([some (.ref 79), some (.int x1), d2, d3, d4], [])) (S' := [.int (g 14 x1.toNatClampNeg), .int x1, .ref 96]) (h' := (jXt cx (jY f (jup g 15 ((jup (g 15) (u1.toNatClampNeg) u0))) n b l t), z)) rfl).trans (jite_congr (fun _ => rfl) (fun _ => ?_))
  exact jev_blk 2 rfl
set_option maxRecDepth 20000 in
theorem E_m_passes_95 {D : Nat}  {x1 : Int32} {d2 : Option Value} {d3 : Option Value} {d4 : Option Value} {u0 : Int32} {u1 : Int32} {cx : jCX} {f : Nat → Int32} {g : Nat → Nat → Int32} {n : Nat → Nat → Int64} {b : Nat → Nat → Int32} {l : Nat → Int64} {t : List jE} {z : Nat × Nat × Nat × (Nat → Int32)}  : jev D 200 95 ([some (.ref 79), some (.int x1), d2, d3, d4], []) [.int u0, .int u1, .ref 96] (jXt cx (jY f g n b l t), z) = if jout u1 23 then none else (K_m_passes_98 D x1 d2 d3 0 cx f (jup g 14 ((jup (g 14) (u1.toNatClampNeg) u0))) n b l t z) := by
  refine (jev_grd (q := jout u1 23) (pc' := 96) (L' := ([some (.ref 79), some (.int x1), d2, d3, d4], [])) (S' := []) (h' := (jXt cx (jY f (jup g 14 ((jup (g 14) (u1.toNatClampNeg) u0))) n b l t), z)) rfl).trans (jite_congr (fun _ => rfl) (fun _ => ?_))
  exact jev_blk 2 rfl
set_option maxRecDepth 20000 in
theorem L_m_passes_98 {D : Nat}  {x1 : Int32} {d2 : Option Value} {d3 : Option Value} {x4 : Int32} {cx : jCX} {f : Nat → Int32} {g : Nat → Nat → Int32} {n : Nat → Nat → Int64} {b : Nat → Nat → Int32} {l : Nat → Int64} {t : List jE} {z : Nat × Nat × Nat × (Nat → Int32)}  : K_m_passes_98 D x1 d2 d3 x4 cx f g n b l t z = if x4 < 6 then (jev D 200 109 ([some (.ref 79), some (.int x1), d2, d3, some (.int x4)], []) [.int 0, .int ((6 * x1) + x4), .ref 104] (jXt cx (jY f g n b l t), z)) else (some (.inl (none), (jXt cx (jY f g n b l t), z))) := by
  refine (jev_blk 3 (pc' := if x4 < 6 then 101 else 112) (L' := ([some (.ref 79), some (.int x1), d2, d3, some (.int x4)], [])) (S' := []) (h' := (jXt cx (jY f g n b l t), z)) rfl).trans (jev_ite.trans (jite_congr (fun _ => ?_) (fun _ => ?_)))
  · exact jev_blk 8 rfl
  · exact jev_fin rfl
set_option maxRecDepth 20000 in
theorem E_m_passes_109 {D : Nat}  {x1 : Int32} {d2 : Option Value} {d3 : Option Value} {x4 : Int32} {u0 : Int32} {u1 : Int32} {cx : jCX} {f : Nat → Int32} {g : Nat → Nat → Int32} {n : Nat → Nat → Int64} {b : Nat → Nat → Int32} {l : Nat → Int64} {t : List jE} {z : Nat × Nat × Nat × (Nat → Int32)}  : jev D 200 109 ([some (.ref 79), some (.int x1), d2, d3, some (.int x4)], []) [.int u0, .int u1, .ref 104] (jXt cx (jY f g n b l t), z) = if jout u1 138 then none else (K_m_passes_98 D x1 d2 d3 (x4 + 1) cx f (jup g 22 ((jup (g 22) (u1.toNatClampNeg) u0))) n b l t z) := by
  refine (jev_grd (q := jout u1 138) (pc' := 110) (L' := ([some (.ref 79), some (.int x1), d2, d3, some (.int x4)], [])) (S' := []) (h' := (jXt cx (jY f (jup g 22 ((jup (g 22) (u1.toNatClampNeg) u0))) n b l t), z)) rfl).trans (jite_congr (fun _ => rfl) (fun _ => ?_))
  exact jev_blk 2 rfl
set_option maxRecDepth 20000 in
theorem E_m_runs {D : Nat}  {a0 : Int32} {cx : jCX} {f : Nat → Int32} {g : Nat → Nat → Int32} {n : Nat → Nat → Int64} {b : Nat → Nat → Int32} {l : Nat → Int64} {t : List jE} {z : Nat × Nat × Nat × (Nat → Int32)}  : K_m_runs D a0 cx f g n b l t z = K_m_runs_7 D (some (.int a0)) ((g 14 0) + a0) cx f g n b l t z := by
  exact jev_blk 7 rfl
set_option maxRecDepth 20000 in
theorem L_m_runs_7 {D : Nat}  {d1 : Option Value} {x2 : Int32} {cx : jCX} {f : Nat → Int32} {g : Nat → Nat → Int32} {n : Nat → Nat → Int64} {b : Nat → Nat → Int32} {l : Nat → Int64} {t : List jE} {z : Nat × Nat × Nat × (Nat → Int32)}  : K_m_runs_7 D d1 x2 cx f g n b l t z = if (g 14 1) < x2 then (jbO (K_m_passes D 1 cx f g n b l t z) (jk D 201 16 ([some (.ref 79), d1, some (.int x2)], []) [])) else (some (.inl (none), (jXt cx (jY f g n b l t), z))) := by
  refine (jev_blk 6 (pc' := if (g 14 1) < x2 then 13 else 17) (L' := ([some (.ref 79), d1, some (.int x2)], [])) (S' := []) (h' := (jXt cx (jY f g n b l t), z)) rfl).trans (jev_ite.trans (jite_congr (fun _ => ?_) (fun _ => ?_)))
  · refine (jev_blk 2 (pc' := 15) (L' := ([some (.ref 79), d1, some (.int x2)], [])) (S' := [.int 1, .ref 79]) (h' := (jXt cx (jY f g n b l t), z)) rfl).trans ?_
    exact jev_callb (nx := 16) (rest := []) rfl
  · exact jev_fin rfl
set_option maxRecDepth 20000 in
theorem E_m_runs_16 {D : Nat}  {d1 : Option Value} {x2 : Int32} {cx : jCX} {f : Nat → Int32} {g : Nat → Nat → Int32} {n : Nat → Nat → Int64} {b : Nat → Nat → Int32} {l : Nat → Int64} {t : List jE} {z : Nat × Nat × Nat × (Nat → Int32)}  : jev D 201 16 ([some (.ref 79), d1, some (.int x2)], []) [] (jXt cx (jY f g n b l t), z) = K_m_runs_7 D d1 x2 cx f g n b l t z := by
  exact jev_blk 1 rfl
set_option maxRecDepth 20000 in
theorem E_m_cell {D : Nat}  {a0 : Int32} {a1 : Int32} {cx : jCX} {f : Nat → Int32} {g : Nat → Nat → Int32} {n : Nat → Nat → Int64} {b : Nat → Nat → Int32} {l : Nat → Int64} {t : List jE} {z : Nat × Nat × Nat × (Nat → Int32)}  : K_m_cell D a0 a1 cx f g n b l t z = jbO (K_m_isCell D a0 cx f g n b l t z) (jk D 202 4 ([some (.ref 79), some (.int a0), some (.int a1)], []) [.ref 79]) := by
  refine (jev_blk 3 (pc' := 3) (L' := ([some (.ref 79), some (.int a0), some (.int a1)], [])) (S' := [.int a0, .ref 79, .ref 79]) (h' := (jXt cx (jY f g n b l t), z)) rfl).trans ?_
  exact jev_callb (nx := 4) (rest := [.ref 79]) rfl
set_option maxRecDepth 20000 in
theorem E_m_cell_4 {D : Nat}  {x1 : Int32} {x2 : Int32} {u0 : Int32} {cx : jCX} {f : Nat → Int32} {g : Nat → Nat → Int32} {n : Nat → Nat → Int64} {b : Nat → Nat → Int32} {l : Nat → Int64} {t : List jE} {z : Nat × Nat × Nat × (Nat → Int32)}  : jev D 202 4 ([some (.ref 79), some (.int x1), some (.int x2)], []) [.int u0, .ref 79] (jXt cx (jY f g n b l t), z) = if u0 = 0 then (K_m_cell_15 D x1 x2 1 cx f g n b l t z) else (if x2 < 0 then (K_m_cell_12 D x1 x2 cx f g n b l t z) else (if 2 < x2 then (K_m_cell_12 D x1 x2 cx f g n b l t z) else (K_m_cell_15 D x1 x2 0 cx f g n b l t z))) := by
  refine (jev_blk 1 (pc' := if u0 = 0 then 5 else 7) (L' := ([some (.ref 79), some (.int x1), some (.int x2)], [])) (S' := [.ref 79]) (h' := (jXt cx (jY f g n b l t), z)) rfl).trans (jev_ite.trans (jite_congr (fun _ => ?_) (fun _ => ?_)))
  · exact jev_blk 2 rfl
  · refine (jev_blk 2 (pc' := if x2 < 0 then 12 else 9) (L' := ([some (.ref 79), some (.int x1), some (.int x2)], [])) (S' := [.ref 79]) (h' := (jXt cx (jY f g n b l t), z)) rfl).trans (jev_ite.trans (jite_congr (fun _ => ?_) (fun _ => ?_)))
    · rfl
    · refine (jev_blk 3 (pc' := if 2 < x2 then 12 else 14) (L' := ([some (.ref 79), some (.int x1), some (.int x2)], [])) (S' := [.ref 79]) (h' := (jXt cx (jY f g n b l t), z)) rfl).trans (jev_ite.trans (jite_congr (fun _ => ?_) (fun _ => ?_)))
      · rfl
      · exact jev_blk 1 rfl
set_option maxRecDepth 20000 in
theorem E_m_cell_15 {D : Nat}  {x1 : Int32} {x2 : Int32} {u0 : Int32} {cx : jCX} {f : Nat → Int32} {g : Nat → Nat → Int32} {n : Nat → Nat → Int64} {b : Nat → Nat → Int32} {l : Nat → Int64} {t : List jE} {z : Nat × Nat × Nat × (Nat → Int32)}  : K_m_cell_15 D x1 x2 u0 cx f g n b l t z = if u0 = 0 then (if x2 = 0 then (if jout x1 690 then none else (some (.inl (some (.int (g 20 x1.toNatClampNeg))), (jXt cx (jY (jup f 0 (u0)) g n b l t), z)))) else (if x2 = 1 then (if jout (g 15 0) 276 then none else (some (.inl (some (.int (((g 21 (g 15 0).toNatClampNeg) >>> (x1 &&& 31)) &&& 1))), (jXt cx (jY (jup f 0 (u0)) g n b l t), z)))) else (jbO (K_m_flaps D 0 0 cx (jup f 0 (u0)) g n b l t z) (jk D 202 47 ([some (.ref 79), some (.int x1), some (.int x2)], []) [])))) else (some (.inl (some (.int 0)), (jXt cx (jY (jup f 0 (u0)) g n b l t), z))) := by
  refine (jev_blk 4 (pc' := if u0 = 0 then 21 else 19) (L' := ([some (.ref 79), some (.int x1), some (.int x2)], [])) (S' := []) (h' := (jXt cx (jY (jup f 0 (u0)) g n b l t), z)) rfl).trans (jev_ite.trans (jite_congr (fun _ => ?_) (fun _ => ?_)))
  · refine (jev_blk 2 (pc' := if x2 = 0 then 23 else 28) (L' := ([some (.ref 79), some (.int x1), some (.int x2)], [])) (S' := []) (h' := (jXt cx (jY (jup f 0 (u0)) g n b l t), z)) rfl).trans (jev_ite.trans (jite_congr (fun _ => ?_) (fun _ => ?_)))
    · refine (jev_blk 3 (pc' := 26) (L' := ([some (.ref 79), some (.int x1), some (.int x2)], [])) (S' := [.int x1, .ref 102]) (h' := (jXt cx (jY (jup f 0 (u0)) g n b l t), z)) rfl).trans ?_
      refine (jev_grd (q := jout x1 690) (pc' := 27) (L' := ([some (.ref 79), some (.int x1), some (.int x2)], [])) (S' := [.int (g 20 x1.toNatClampNeg)]) (h' := (jXt cx (jY (jup f 0 (u0)) g n b l t), z)) rfl).trans (jite_congr (fun _ => rfl) (fun _ => ?_))
      refine (jev_blk 1 (pc' := 51) (L' := ([some (.ref 79), some (.int x1), some (.int x2)], [])) (S' := [.int (g 20 x1.toNatClampNeg)]) (h' := (jXt cx (jY (jup f 0 (u0)) g n b l t), z)) rfl).trans ?_
      exact jev_fin rfl
    · refine (jev_blk 3 (pc' := if x2 = 1 then 31 else 43) (L' := ([some (.ref 79), some (.int x1), some (.int x2)], [])) (S' := []) (h' := (jXt cx (jY (jup f 0 (u0)) g n b l t), z)) rfl).trans (jev_ite.trans (jite_congr (fun _ => ?_) (fun _ => ?_)))
      · refine (jev_blk 6 (pc' := 37) (L' := ([some (.ref 79), some (.int x1), some (.int x2)], [])) (S' := [.int (g 15 0), .ref 103]) (h' := (jXt cx (jY (jup f 0 (u0)) g n b l t), z)) rfl).trans ?_
        refine (jev_grd (q := jout (g 15 0) 276) (pc' := 38) (L' := ([some (.ref 79), some (.int x1), some (.int x2)], [])) (S' := [.int (g 21 (g 15 0).toNatClampNeg)]) (h' := (jXt cx (jY (jup f 0 (u0)) g n b l t), z)) rfl).trans (jite_congr (fun _ => rfl) (fun _ => ?_))
        refine (jev_blk 5 (pc' := 51) (L' := ([some (.ref 79), some (.int x1), some (.int x2)], [])) (S' := [.int (((g 21 (g 15 0).toNatClampNeg) >>> (x1 &&& 31)) &&& 1)]) (h' := (jXt cx (jY (jup f 0 (u0)) g n b l t), z)) rfl).trans ?_
        exact jev_fin rfl
      · refine (jev_blk 3 (pc' := 46) (L' := ([some (.ref 79), some (.int x1), some (.int x2)], [])) (S' := [.int 0, .int 0, .ref 79]) (h' := (jXt cx (jY (jup f 0 (u0)) g n b l t), z)) rfl).trans ?_
        exact jev_callb (nx := 47) (rest := []) rfl
  · refine (jev_blk 1 (pc' := 20) (L' := ([some (.ref 79), some (.int x1), some (.int x2)], [])) (S' := [.int 0]) (h' := (jXt cx (jY (jup f 0 (u0)) g n b l t), z)) rfl).trans ?_
    exact jev_fin rfl
set_option maxRecDepth 20000 in
theorem E_m_cell_12 {D : Nat}  {x1 : Int32} {x2 : Int32} {cx : jCX} {f : Nat → Int32} {g : Nat → Nat → Int32} {n : Nat → Nat → Int64} {b : Nat → Nat → Int32} {l : Nat → Int64} {t : List jE} {z : Nat × Nat × Nat × (Nat → Int32)}  : K_m_cell_12 D x1 x2 cx f g n b l t z = K_m_cell_15 D x1 x2 2 cx f g n b l t z := by
  exact jev_blk 2 rfl
set_option maxRecDepth 20000 in
theorem E_m_cell_47 {D : Nat}  {x1 : Int32} {d2 : Option Value} {u0 : Int32} {cx : jCX} {f : Nat → Int32} {g : Nat → Nat → Int32} {n : Nat → Nat → Int64} {b : Nat → Nat → Int32} {l : Nat → Int64} {t : List jE} {z : Nat × Nat × Nat × (Nat → Int32)}  : jev D 202 47 ([some (.ref 79), some (.int x1), d2], []) [.int u0] (jXt cx (jY f g n b l t), z) = some (.inl (some (.int ((u0 >>> (x1 &&& 31)) &&& 1))), (jXt cx (jY f g n b l t), z)) := by
  refine (jev_blk 4 (pc' := 51) (L' := ([some (.ref 79), some (.int x1), d2], [])) (S' := [.int ((u0 >>> (x1 &&& 31)) &&& 1)]) (h' := (jXt cx (jY f g n b l t), z)) rfl).trans ?_
  exact jev_fin rfl
set_option maxRecDepth 20000 in
theorem E_m_scare {D : Nat}  {a0 : Int32} {a1 : Int32} {cx : jCX} {f : Nat → Int32} {g : Nat → Nat → Int32} {n : Nat → Nat → Int64} {b : Nat → Nat → Int32} {l : Nat → Int64} {t : List jE} {z : Nat × Nat × Nat × (Nat → Int32)}  : K_m_scare D a0 a1 cx f g n b l t z = jbO (K_m_isScare D a0 cx (jup f 0 (0)) g n b l t z) (jk D 203 6 ([some (.ref 79), some (.int a0), some (.int a1)], []) []) := by
  refine (jev_blk 5 (pc' := 5) (L' := ([some (.ref 79), some (.int a0), some (.int a1)], [])) (S' := [.int a0, .ref 79]) (h' := (jXt cx (jY (jup f 0 (0)) g n b l t), z)) rfl).trans ?_
  exact jev_callb (nx := 6) (rest := []) rfl
set_option maxRecDepth 20000 in
theorem E_m_scare_6 {D : Nat}  {x1 : Int32} {x2 : Int32} {u0 : Int32} {cx : jCX} {f : Nat → Int32} {g : Nat → Nat → Int32} {n : Nat → Nat → Int64} {b : Nat → Nat → Int32} {l : Nat → Int64} {t : List jE} {z : Nat × Nat × Nat × (Nat → Int32)}  : jev D 203 6 ([some (.ref 79), some (.int x1), some (.int x2)], []) [.int u0] (jXt cx (jY f g n b l t), z) = if u0 = 0 then (some (.inl (some (.int (-1))), (jXt cx (jY f g n b l t), z))) else (if x2 = 0 then (if jout x1 12 then none else (some (.inl (some (.int (g 4 x1.toNatClampNeg))), (jXt cx (jY f g n b l t), z)))) else (if x2 = 1 then (if jout x1 12 then none else (some (.inl (some (.int (g 5 x1.toNatClampNeg))), (jXt cx (jY f g n b l t), z)))) else (if x2 = 2 then (if jout x1 12 then none else (some (.inl (some (.int (g 6 x1.toNatClampNeg))), (jXt cx (jY f g n b l t), z)))) else (if x2 = 3 then (if jout x1 138 then none else (some (.inl (some (.int (g 24 x1.toNatClampNeg))), (jXt cx (jY f g n b l t), z)))) else (if x2 = 4 then (if jout x1 138 then none else (some (.inl (some (.int (g 23 x1.toNatClampNeg))), (jXt cx (jY f g n b l t), z)))) else (if x2 = 5 then (some (.inl (some (.int (((g 19 0) >>> (x1 &&& 31)) &&& 1))), (jXt cx (jY f g n b l t), z))) else (if x2 = 6 then (if jout x1 138 then none else (some (.inl (some (.int (g 22 x1.toNatClampNeg))), (jXt cx (jY f g n b l t), z)))) else (if x2 = 7 then (jbO (K_m_flapsOf D 0 x1 cx f g n b l t z) (jk D 203 54 ([some (.ref 79), some (.int x1), some (.int x2)], []) [])) else (some (.inl (some (.int (-1))), (jXt cx (jY f g n b l t), z))))))))))) := by
  refine (jev_blk 1 (pc' := if u0 = 0 then 7 else 9) (L' := ([some (.ref 79), some (.int x1), some (.int x2)], [])) (S' := []) (h' := (jXt cx (jY f g n b l t), z)) rfl).trans (jev_ite.trans (jite_congr (fun _ => ?_) (fun _ => ?_)))
  · refine (jev_blk 1 (pc' := 8) (L' := ([some (.ref 79), some (.int x1), some (.int x2)], [])) (S' := [.int (-1)]) (h' := (jXt cx (jY f g n b l t), z)) rfl).trans ?_
    exact jev_fin rfl
  · refine (jev_blk 2 (pc' := if x2 = 0 then 11 else if x2 = 1 then 16 else if x2 = 2 then 21 else if x2 = 3 then 26 else if x2 = 4 then 31 else if x2 = 5 then 36 else if x2 = 6 then 45 else if x2 = 7 then 50 else 55) (L' := ([some (.ref 79), some (.int x1), some (.int x2)], [])) (S' := []) (h' := (jXt cx (jY f g n b l t), z)) rfl).trans ?_
    refine jev_ite.trans (jite_congr (fun _ => ?_) (fun _ => ?_))
    · refine (jev_blk 3 (pc' := 14) (L' := ([some (.ref 79), some (.int x1), some (.int x2)], [])) (S' := [.int x1, .ref 84]) (h' := (jXt cx (jY f g n b l t), z)) rfl).trans ?_
      refine (jev_grd (q := jout x1 12) (pc' := 15) (L' := ([some (.ref 79), some (.int x1), some (.int x2)], [])) (S' := [.int (g 4 x1.toNatClampNeg)]) (h' := (jXt cx (jY f g n b l t), z)) rfl).trans (jite_congr (fun _ => rfl) (fun _ => ?_))
      exact jev_fin rfl
    · refine jev_ite.trans (jite_congr (fun _ => ?_) (fun _ => ?_))
      · refine (jev_blk 3 (pc' := 19) (L' := ([some (.ref 79), some (.int x1), some (.int x2)], [])) (S' := [.int x1, .ref 85]) (h' := (jXt cx (jY f g n b l t), z)) rfl).trans ?_
        refine (jev_grd (q := jout x1 12) (pc' := 20) (L' := ([some (.ref 79), some (.int x1), some (.int x2)], [])) (S' := [.int (g 5 x1.toNatClampNeg)]) (h' := (jXt cx (jY f g n b l t), z)) rfl).trans (jite_congr (fun _ => rfl) (fun _ => ?_))
        exact jev_fin rfl
      · refine jev_ite.trans (jite_congr (fun _ => ?_) (fun _ => ?_))
        · refine (jev_blk 3 (pc' := 24) (L' := ([some (.ref 79), some (.int x1), some (.int x2)], [])) (S' := [.int x1, .ref 86]) (h' := (jXt cx (jY f g n b l t), z)) rfl).trans ?_
          refine (jev_grd (q := jout x1 12) (pc' := 25) (L' := ([some (.ref 79), some (.int x1), some (.int x2)], [])) (S' := [.int (g 6 x1.toNatClampNeg)]) (h' := (jXt cx (jY f g n b l t), z)) rfl).trans (jite_congr (fun _ => rfl) (fun _ => ?_))
          exact jev_fin rfl
        · refine jev_ite.trans (jite_congr (fun _ => ?_) (fun _ => ?_))
          · refine (jev_blk 3 (pc' := 29) (L' := ([some (.ref 79), some (.int x1), some (.int x2)], [])) (S' := [.int x1, .ref 106]) (h' := (jXt cx (jY f g n b l t), z)) rfl).trans ?_
            refine (jev_grd (q := jout x1 138) (pc' := 30) (L' := ([some (.ref 79), some (.int x1), some (.int x2)], [])) (S' := [.int (g 24 x1.toNatClampNeg)]) (h' := (jXt cx (jY f g n b l t), z)) rfl).trans (jite_congr (fun _ => rfl) (fun _ => ?_))
            exact jev_fin rfl
          · refine jev_ite.trans (jite_congr (fun _ => ?_) (fun _ => ?_))
            · refine (jev_blk 3 (pc' := 34) (L' := ([some (.ref 79), some (.int x1), some (.int x2)], [])) (S' := [.int x1, .ref 105]) (h' := (jXt cx (jY f g n b l t), z)) rfl).trans ?_
              refine (jev_grd (q := jout x1 138) (pc' := 35) (L' := ([some (.ref 79), some (.int x1), some (.int x2)], [])) (S' := [.int (g 23 x1.toNatClampNeg)]) (h' := (jXt cx (jY f g n b l t), z)) rfl).trans (jite_congr (fun _ => rfl) (fun _ => ?_))
              exact jev_fin rfl
            · refine jev_ite.trans (jite_congr (fun _ => ?_) (fun _ => ?_))
              · refine (jev_blk 8 (pc' := 44) (L' := ([some (.ref 79), some (.int x1), some (.int x2)], [])) (S' := [.int (((g 19 0) >>> (x1 &&& 31)) &&& 1)]) (h' := (jXt cx (jY f g n b l t), z)) rfl).trans ?_
                exact jev_fin rfl
              · refine jev_ite.trans (jite_congr (fun _ => ?_) (fun _ => ?_))
                · refine (jev_blk 3 (pc' := 48) (L' := ([some (.ref 79), some (.int x1), some (.int x2)], [])) (S' := [.int x1, .ref 104]) (h' := (jXt cx (jY f g n b l t), z)) rfl).trans ?_
                  refine (jev_grd (q := jout x1 138) (pc' := 49) (L' := ([some (.ref 79), some (.int x1), some (.int x2)], [])) (S' := [.int (g 22 x1.toNatClampNeg)]) (h' := (jXt cx (jY f g n b l t), z)) rfl).trans (jite_congr (fun _ => rfl) (fun _ => ?_))
                  exact jev_fin rfl
                · refine jev_ite.trans (jite_congr (fun _ => ?_) (fun _ => ?_))
                  · refine (jev_blk 3 (pc' := 53) (L' := ([some (.ref 79), some (.int x1), some (.int x2)], [])) (S' := [.int x1, .int 0, .ref 79]) (h' := (jXt cx (jY f g n b l t), z)) rfl).trans ?_
                    exact jev_callb (nx := 54) (rest := []) rfl
                  · refine (jev_blk 1 (pc' := 56) (L' := ([some (.ref 79), some (.int x1), some (.int x2)], [])) (S' := [.int (-1)]) (h' := (jXt cx (jY f g n b l t), z)) rfl).trans ?_
                    exact jev_fin rfl
set_option maxRecDepth 20000 in
theorem E_m_scare_54 {D : Nat}  {d1 : Option Value} {d2 : Option Value} {u0 : Int32} {cx : jCX} {f : Nat → Int32} {g : Nat → Nat → Int32} {n : Nat → Nat → Int64} {b : Nat → Nat → Int32} {l : Nat → Int64} {t : List jE} {z : Nat × Nat × Nat × (Nat → Int32)}  : jev D 203 54 ([some (.ref 79), d1, d2], []) [.int u0] (jXt cx (jY f g n b l t), z) = some (.inl (some (.int u0)), (jXt cx (jY f g n b l t), z)) := by
  exact jev_fin rfl
set_option maxRecDepth 20000 in
theorem E_m_wind {D : Nat}  {a0 : Int32} {cx : jCX} {f : Nat → Int32} {g : Nat → Nat → Int32} {n : Nat → Nat → Int64} {b : Nat → Nat → Int32} {l : Nat → Int64} {t : List jE} {z : Nat × Nat × Nat × (Nat → Int32)}  : K_m_wind D a0 cx f g n b l t z = if a0 < 0 then (some (.inl (some (.int (-1))), (jXt cx (jY (jup f 0 (0)) g n b l t), z))) else (if 999 < a0 then (some (.inl (some (.int (-1))), (jXt cx (jY (jup f 0 (0)) g n b l t), z))) else (jbO (K_m_windOf D a0 cx (jup f 0 (0)) g n b l t z) (jk D 204 11 ([some (.ref 79), some (.int a0)], []) []))) := by
  refine (jev_blk 5 (pc' := if a0 < 0 then 12 else 5) (L' := ([some (.ref 79), some (.int a0)], [])) (S' := []) (h' := (jXt cx (jY (jup f 0 (0)) g n b l t), z)) rfl).trans (jev_ite.trans (jite_congr (fun _ => ?_) (fun _ => ?_)))
  · refine (jev_blk 1 (pc' := 13) (L' := ([some (.ref 79), some (.int a0)], [])) (S' := [.int (-1)]) (h' := (jXt cx (jY (jup f 0 (0)) g n b l t), z)) rfl).trans ?_
    exact jev_fin rfl
  · refine (jev_blk 3 (pc' := if 999 < a0 then 12 else 8) (L' := ([some (.ref 79), some (.int a0)], [])) (S' := []) (h' := (jXt cx (jY (jup f 0 (0)) g n b l t), z)) rfl).trans (jev_ite.trans (jite_congr (fun _ => ?_) (fun _ => ?_)))
    · refine (jev_blk 1 (pc' := 13) (L' := ([some (.ref 79), some (.int a0)], [])) (S' := [.int (-1)]) (h' := (jXt cx (jY (jup f 0 (0)) g n b l t), z)) rfl).trans ?_
      exact jev_fin rfl
    · refine (jev_blk 2 (pc' := 10) (L' := ([some (.ref 79), some (.int a0)], [])) (S' := [.int a0, .ref 79]) (h' := (jXt cx (jY (jup f 0 (0)) g n b l t), z)) rfl).trans ?_
      exact jev_callb (nx := 11) (rest := []) rfl
set_option maxRecDepth 20000 in
theorem E_m_wind_11 {D : Nat}  {d1 : Option Value} {u0 : Int32} {cx : jCX} {f : Nat → Int32} {g : Nat → Nat → Int32} {n : Nat → Nat → Int64} {b : Nat → Nat → Int32} {l : Nat → Int64} {t : List jE} {z : Nat × Nat × Nat × (Nat → Int32)}  : jev D 204 11 ([some (.ref 79), d1], []) [.int u0] (jXt cx (jY f g n b l t), z) = some (.inl (some (.int u0)), (jXt cx (jY f g n b l t), z)) := by
  refine (jev_blk 1 (pc' := 13) (L' := ([some (.ref 79), d1], [])) (S' := [.int u0]) (h' := (jXt cx (jY f g n b l t), z)) rfl).trans ?_
  exact jev_fin rfl
set_option maxRecDepth 20000 in
theorem E_m_sees {D : Nat}  {a0 : Int32} {a1 : Int32} {cx : jCX} {f : Nat → Int32} {g : Nat → Nat → Int32} {n : Nat → Nat → Int64} {b : Nat → Nat → Int32} {l : Nat → Int64} {t : List jE} {z : Nat × Nat × Nat × (Nat → Int32)}  : K_m_sees D a0 a1 cx f g n b l t z = jbO (K_m_isScare D a0 cx (jup f 0 (0)) g n b l t z) (jk D 205 6 ([some (.ref 79), some (.int a0), some (.int a1)], []) []) := by
  refine (jev_blk 5 (pc' := 5) (L' := ([some (.ref 79), some (.int a0), some (.int a1)], [])) (S' := [.int a0, .ref 79]) (h' := (jXt cx (jY (jup f 0 (0)) g n b l t), z)) rfl).trans ?_
  exact jev_callb (nx := 6) (rest := []) rfl
set_option maxRecDepth 20000 in
theorem E_m_sees_6 {D : Nat}  {x1 : Int32} {x2 : Int32} {u0 : Int32} {cx : jCX} {f : Nat → Int32} {g : Nat → Nat → Int32} {n : Nat → Nat → Int64} {b : Nat → Nat → Int32} {l : Nat → Int64} {t : List jE} {z : Nat × Nat × Nat × (Nat → Int32)}  : jev D 205 6 ([some (.ref 79), some (.int x1), some (.int x2)], []) [.int u0] (jXt cx (jY f g n b l t), z) = if u0 = 0 then (some (.inl (some (.int (-1))), (jXt cx (jY f g n b l t), z))) else (jbO (K_m_isCell D x2 cx f g n b l t z) (jk D 205 10 ([some (.ref 79), some (.int x1), some (.int x2)], []) [])) := by
  refine (jev_blk 1 (pc' := if u0 = 0 then 11 else 7) (L' := ([some (.ref 79), some (.int x1), some (.int x2)], [])) (S' := []) (h' := (jXt cx (jY f g n b l t), z)) rfl).trans (jev_ite.trans (jite_congr (fun _ => ?_) (fun _ => ?_)))
  · refine (jev_blk 1 (pc' := 12) (L' := ([some (.ref 79), some (.int x1), some (.int x2)], [])) (S' := [.int (-1)]) (h' := (jXt cx (jY f g n b l t), z)) rfl).trans ?_
    exact jev_fin rfl
  · refine (jev_blk 2 (pc' := 9) (L' := ([some (.ref 79), some (.int x1), some (.int x2)], [])) (S' := [.int x2, .ref 79]) (h' := (jXt cx (jY f g n b l t), z)) rfl).trans ?_
    exact jev_callb (nx := 10) (rest := []) rfl
set_option maxRecDepth 20000 in
theorem E_m_sees_10 {D : Nat}  {x1 : Int32} {x2 : Int32} {u0 : Int32} {cx : jCX} {f : Nat → Int32} {g : Nat → Nat → Int32} {n : Nat → Nat → Int64} {b : Nat → Nat → Int32} {l : Nat → Int64} {t : List jE} {z : Nat × Nat × Nat × (Nat → Int32)}  : jev D 205 10 ([some (.ref 79), some (.int x1), some (.int x2)], []) [.int u0] (jXt cx (jY f g n b l t), z) = if u0 = 0 then (some (.inl (some (.int (-1))), (jXt cx (jY f g n b l t), z))) else (jbO (K_m_isSeen D 0 x1 x2 cx f g n b l t z) (jk D 205 18 ([some (.ref 79), some (.int x1), some (.int x2)], []) [])) := by
  refine (jev_blk 1 (pc' := if u0 = 0 then 11 else 13) (L' := ([some (.ref 79), some (.int x1), some (.int x2)], [])) (S' := []) (h' := (jXt cx (jY f g n b l t), z)) rfl).trans (jev_ite.trans (jite_congr (fun _ => ?_) (fun _ => ?_)))
  · refine (jev_blk 1 (pc' := 12) (L' := ([some (.ref 79), some (.int x1), some (.int x2)], [])) (S' := [.int (-1)]) (h' := (jXt cx (jY f g n b l t), z)) rfl).trans ?_
    exact jev_fin rfl
  · refine (jev_blk 4 (pc' := 17) (L' := ([some (.ref 79), some (.int x1), some (.int x2)], [])) (S' := [.int x2, .int x1, .int 0, .ref 79]) (h' := (jXt cx (jY f g n b l t), z)) rfl).trans ?_
    exact jev_callb (nx := 18) (rest := []) rfl
set_option maxRecDepth 20000 in
theorem E_m_sees_18 {D : Nat}  {d1 : Option Value} {d2 : Option Value} {u0 : Int32} {cx : jCX} {f : Nat → Int32} {g : Nat → Nat → Int32} {n : Nat → Nat → Int64} {b : Nat → Nat → Int32} {l : Nat → Int64} {t : List jE} {z : Nat × Nat × Nat × (Nat → Int32)}  : jev D 205 18 ([some (.ref 79), d1, d2], []) [.int u0] (jXt cx (jY f g n b l t), z) = if u0 = 0 then (some (.inl (some (.int 0)), (jXt cx (jY f g n b l t), z))) else (some (.inl (some (.int 1)), (jXt cx (jY f g n b l t), z))) := by
  refine (jev_blk 1 (pc' := if u0 = 0 then 21 else 19) (L' := ([some (.ref 79), d1, d2], [])) (S' := []) (h' := (jXt cx (jY f g n b l t), z)) rfl).trans (jev_ite.trans (jite_congr (fun _ => ?_) (fun _ => ?_)))
  · refine (jev_blk 1 (pc' := 22) (L' := ([some (.ref 79), d1, d2], [])) (S' := [.int 0]) (h' := (jXt cx (jY f g n b l t), z)) rfl).trans ?_
    exact jev_fin rfl
  · refine (jev_blk 2 (pc' := 22) (L' := ([some (.ref 79), d1, d2], [])) (S' := [.int 1]) (h' := (jXt cx (jY f g n b l t), z)) rfl).trans ?_
    exact jev_fin rfl
set_option maxRecDepth 20000 in
theorem E_m_law {D : Nat}  {a0 : Int32} {a1 : Int32} {a2 : Int32} {cx : jCX} {f : Nat → Int32} {g : Nat → Nat → Int32} {n : Nat → Nat → Int64} {b : Nat → Nat → Int32} {l : Nat → Int64} {t : List jE} {z : Nat × Nat × Nat × (Nat → Int32)}  : K_m_law D a0 a1 a2 cx f g n b l t z = if a0 < 0 then (some (.inl (some (.long (-9223372036854775808))), (jXt cx (jY (jup f 0 (0)) g n b l t), z))) else (if 2 < a0 then (some (.inl (some (.long (-9223372036854775808))), (jXt cx (jY (jup f 0 (0)) g n b l t), z))) else (jbO (K_m_hasLaw D a0 cx (jup f 0 (0)) g n b l t z) (jk D 206 11 ([some (.ref 79), some (.int a0), some (.int a1), some (.int a2)], []) []))) := by
  refine (jev_blk 5 (pc' := if a0 < 0 then 12 else 5) (L' := ([some (.ref 79), some (.int a0), some (.int a1), some (.int a2)], [])) (S' := []) (h' := (jXt cx (jY (jup f 0 (0)) g n b l t), z)) rfl).trans (jev_ite.trans (jite_congr (fun _ => ?_) (fun _ => ?_)))
  · refine (jev_blk 1 (pc' := 13) (L' := ([some (.ref 79), some (.int a0), some (.int a1), some (.int a2)], [])) (S' := [.long (-9223372036854775808)]) (h' := (jXt cx (jY (jup f 0 (0)) g n b l t), z)) rfl).trans ?_
    exact jev_fin rfl
  · refine (jev_blk 3 (pc' := if 2 < a0 then 12 else 8) (L' := ([some (.ref 79), some (.int a0), some (.int a1), some (.int a2)], [])) (S' := []) (h' := (jXt cx (jY (jup f 0 (0)) g n b l t), z)) rfl).trans (jev_ite.trans (jite_congr (fun _ => ?_) (fun _ => ?_)))
    · refine (jev_blk 1 (pc' := 13) (L' := ([some (.ref 79), some (.int a0), some (.int a1), some (.int a2)], [])) (S' := [.long (-9223372036854775808)]) (h' := (jXt cx (jY (jup f 0 (0)) g n b l t), z)) rfl).trans ?_
      exact jev_fin rfl
    · refine (jev_blk 2 (pc' := 10) (L' := ([some (.ref 79), some (.int a0), some (.int a1), some (.int a2)], [])) (S' := [.int a0, .ref 79]) (h' := (jXt cx (jY (jup f 0 (0)) g n b l t), z)) rfl).trans ?_
      exact jev_callb (nx := 11) (rest := []) rfl
