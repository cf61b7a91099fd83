-- EQUATIONS: one a block; E_ unfolds, L_ a loop's head
set_option maxRecDepth 20000 in
theorem E_m_thrown {D : Nat}   {cx : jCX} {f : Nat → Int32} {g : Nat → Nat → Int32} {n : Nat → Nat → Int64} {b : Nat → Nat → Int32} {l : Nat → Int64} {t : List jE} {z : Nat × Nat × Nat × (Nat → Int32)}  : K_m_thrown D cx f g n b l t z = some (.inl (some (.int (f 0))), (jXt cx (jY f g n b l t), z)) := by
  refine (jev_blk 2 (pc' := 2) (L' := ([some (.ref 79)], [])) (S' := [.int (f 0)]) (h' := (jXt cx (jY f g n b l t), z)) rfl).trans ?_
  exact jev_fin rfl
set_option maxRecDepth 20000 in
theorem E_m_feed {D : Nat}  {a0 : Int32} {a1 : Int32} {a2 : Int32} {a3 : Int32} {a4 : Int32} {cx : jCX} {f : Nat → Int32} {g : Nat → Nat → Int32} {n : Nat → Nat → Int64} {b : Nat → Nat → Int32} {l : Nat → Int64} {t : List jE} {z : Nat × Nat × Nat × (Nat → Int32)}  : K_m_feed D a0 a1 a2 a3 a4 cx f g n b l t z = if 680 < (f 1) then (some (.inl (some (.int (-1))), (jXt cx (jY (jup f 0 (0)) g n b l t), z))) else (K_m_feed_11 D a0 a1 a2 a3 a4 0 none cx (jup f 0 (0)) g n b l t z) := by
  refine (jev_blk 7 (pc' := if 680 < (f 1) then 7 else 9) (L' := ([some (.ref 79), some (.int a0), some (.int a1), some (.int a2), some (.int a3), some (.int a4), none, none], [])) (S' := []) (h' := (jXt cx (jY (jup f 0 (0)) g n b l t), z)) rfl).trans (jev_ite.trans (jite_congr (fun _ => ?_) (fun _ => ?_)))
  · refine (jev_blk 1 (pc' := 8) (L' := ([some (.ref 79), some (.int a0), some (.int a1), some (.int a2), some (.int a3), some (.int a4), none, none], [])) (S' := [.int (-1)]) (h' := (jXt cx (jY (jup f 0 (0)) g n b l t), z)) rfl).trans ?_
    exact jev_fin rfl
  · exact jev_blk 2 rfl
set_option maxRecDepth 20000 in
theorem L_m_feed_11 {D : Nat}  {x1 : Int32} {x2 : Int32} {x3 : Int32} {x4 : Int32} {x5 : Int32} {x6 : Int32} {d7 : Option Value} {cx : jCX} {f : Nat → Int32} {g : Nat → Nat → Int32} {n : Nat → Nat → Int64} {b : Nat → Nat → Int32} {l : Nat → Int64} {t : List jE} {z : Nat × Nat × Nat × (Nat → Int32)}  : K_m_feed_11 D x1 x2 x3 x4 x5 x6 d7 cx f g n b l t z = if x6 < 20 then (if x6 < 4 then (K_m_feed_35 D x1 x2 x3 x4 x5 x6 d7 x1 cx f g n b l t z) else (if x6 < 8 then (K_m_feed_35 D x1 x2 x3 x4 x5 x6 d7 x2 cx f g n b l t z) else (if x6 < 12 then (K_m_feed_35 D x1 x2 x3 x4 x5 x6 d7 x3 cx f g n b l t z) else (if x6 < 16 then (K_m_feed_35 D x1 x2 x3 x4 x5 x6 d7 x4 cx f g n b l t z) else (K_m_feed_35 D x1 x2 x3 x4 x5 x6 d7 x5 cx f g n b l t z))))) else (some (.inl (some (.int ((f 1) + 20))), (jXt cx (jY (jup f 1 (((f 1) + 20))) g n b l t), z))) := by
  refine (jev_blk 3 (pc' := if x6 < 20 then 14 else 56) (L' := ([some (.ref 79), some (.int x1), some (.int x2), some (.int x3), some (.int x4), some (.int x5), some (.int x6), d7], [])) (S' := []) (h' := (jXt cx (jY f g n b l t), z)) rfl).trans (jev_ite.trans (jite_congr (fun _ => ?_) (fun _ => ?_)))
  · refine (jev_blk 3 (pc' := if x6 < 4 then 17 else 19) (L' := ([some (.ref 79), some (.int x1), some (.int x2), some (.int x3), some (.int x4), some (.int x5), some (.int x6), d7], [])) (S' := []) (h' := (jXt cx (jY f g n b l t), z)) rfl).trans (jev_ite.trans (jite_congr (fun _ => ?_) (fun _ => ?_)))
    · exact jev_blk 2 rfl
    · refine (jev_blk 3 (pc' := if x6 < 8 then 22 else 24) (L' := ([some (.ref 79), some (.int x1), some (.int x2), some (.int x3), some (.int x4), some (.int x5), some (.int x6), d7], [])) (S' := []) (h' := (jXt cx (jY f g n b l t), z)) rfl).trans (jev_ite.trans (jite_congr (fun _ => ?_) (fun _ => ?_)))
      · exact jev_blk 2 rfl
      · refine (jev_blk 3 (pc' := if x6 < 12 then 27 else 29) (L' := ([some (.ref 79), some (.int x1), some (.int x2), some (.int x3), some (.int x4), some (.int x5), some (.int x6), d7], [])) (S' := []) (h' := (jXt cx (jY f g n b l t), z)) rfl).trans (jev_ite.trans (jite_congr (fun _ => ?_) (fun _ => ?_)))
        · exact jev_blk 2 rfl
        · refine (jev_blk 3 (pc' := if x6 < 16 then 32 else 34) (L' := ([some (.ref 79), some (.int x1), some (.int x2), some (.int x3), some (.int x4), some (.int x5), some (.int x6), d7], [])) (S' := []) (h' := (jXt cx (jY f g n b l t), z)) rfl).trans (jev_ite.trans (jite_congr (fun _ => ?_) (fun _ => ?_)))
          · exact jev_blk 2 rfl
          · exact jev_blk 1 rfl
  · refine (jev_blk 8 (pc' := 64) (L' := ([some (.ref 79), some (.int x1), some (.int x2), some (.int x3), some (.int x4), some (.int x5), some (.int x6), d7], [])) (S' := [.int ((f 1) + 20)]) (h' := (jXt cx (jY (jup f 1 (((f 1) + 20))) g n b l t), z)) rfl).trans ?_
    exact jev_fin rfl
set_option maxRecDepth 20000 in
theorem E_m_feed_35 {D : Nat}  {x1 : Int32} {x2 : Int32} {x3 : Int32} {x4 : Int32} {x5 : Int32} {x6 : Int32} {d7 : Option Value} {u0 : Int32} {cx : jCX} {f : Nat → Int32} {g : Nat → Nat → Int32} {n : Nat → Nat → Int64} {b : Nat → Nat → Int32} {l : Nat → Int64} {t : List jE} {z : Nat × Nat × Nat × (Nat → Int32)}  : K_m_feed_35 D x1 x2 x3 x4 x5 x6 d7 u0 cx f g n b l t z = jev D 140 53 ([some (.ref 79), some (.int x1), some (.int x2), some (.int x3), some (.int x4), some (.int x5), some (.int x6), some (.int u0)], []) [.int ((u0 >>> ((24 - (8 * (x6 - x6 / 4 * 4))) &&& 31)) &&& 255), .int ((f 1) + x6), .ref 80] (jXt cx (jY f g n b l t), z) := by
  exact jev_blk 18 rfl
set_option maxRecDepth 20000 in
theorem E_m_feed_53 {D : Nat}  {x1 : Int32} {x2 : Int32} {x3 : Int32} {x4 : Int32} {x5 : Int32} {x6 : Int32} {d7 : Option Value} {u0 : Int32} {u1 : Int32} {cx : jCX} {f : Nat → Int32} {g : Nat → Nat → Int32} {n : Nat → Nat → Int64} {b : Nat → Nat → Int32} {l : Nat → Int64} {t : List jE} {z : Nat × Nat × Nat × (Nat → Int32)}  : jev D 140 53 ([some (.ref 79), some (.int x1), some (.int x2), some (.int x3), some (.int x4), some (.int x5), some (.int x6), d7], []) [.int u0, .int u1, .ref 80] (jXt cx (jY f g n b l t), z) = if jout u1 700 then none else (K_m_feed_11 D x1 x2 x3 x4 x5 (x6 + 1) d7 cx f (jup g 0 ((jup (g 0) (u1.toNatClampNeg) u0))) n b l t z) := by
  refine (jev_grd (q := jout u1 700) (pc' := 54) (L' := ([some (.ref 79), some (.int x1), some (.int x2), some (.int x3), some (.int x4), some (.int x5), some (.int x6), d7], [])) (S' := []) (h' := (jXt cx (jY f (jup g 0 ((jup (g 0) (u1.toNatClampNeg) u0))) n b l t), z)) rfl).trans (jite_congr (fun _ => rfl) (fun _ => ?_))
  exact jev_blk 2 rfl
set_option maxRecDepth 20000 in
theorem E_m_here {D : Nat}   {cx : jCX} {f : Nat → Int32} {g : Nat → Nat → Int32} {n : Nat → Nat → Int64} {b : Nat → Nat → Int32} {l : Nat → Int64} {t : List jE} {z : Nat × Nat × Nat × (Nat → Int32)}  : K_m_here D cx f g n b l t z = if (f 5) < (f 4) then (if jout (f 5) 700 then none else (some (.inl (some (.int (g 0 (f 5).toNatClampNeg))), (jXt cx (jY f g n b l t), z)))) else (some (.inl (some (.int (-1))), (jXt cx (jY f g n b l t), z))) := by
  refine (jev_blk 5 (pc' := if (f 5) < (f 4) then 5 else 11) (L' := ([some (.ref 79)], [])) (S' := []) (h' := (jXt cx (jY f g n b l t), z)) rfl).trans (jev_ite.trans (jite_congr (fun _ => ?_) (fun _ => ?_)))
  · refine (jev_blk 4 (pc' := 9) (L' := ([some (.ref 79)], [])) (S' := [.int (f 5), .ref 80]) (h' := (jXt cx (jY f g n b l t), z)) rfl).trans ?_
    refine (jev_grd (q := jout (f 5) 700) (pc' := 10) (L' := ([some (.ref 79)], [])) (S' := [.int (g 0 (f 5).toNatClampNeg)]) (h' := (jXt cx (jY f g n b l t), z)) rfl).trans (jite_congr (fun _ => rfl) (fun _ => ?_))
    refine (jev_blk 1 (pc' := 12) (L' := ([some (.ref 79)], [])) (S' := [.int (g 0 (f 5).toNatClampNeg)]) (h' := (jXt cx (jY f g n b l t), z)) rfl).trans ?_
    exact jev_fin rfl
  · refine (jev_blk 1 (pc' := 12) (L' := ([some (.ref 79)], [])) (S' := [.int (-1)]) (h' := (jXt cx (jY f g n b l t), z)) rfl).trans ?_
    exact jev_fin rfl
set_option maxRecDepth 20000 in
theorem E_m_isSmall {D : Nat}  {a0 : Int32} {cx : jCX} {f : Nat → Int32} {g : Nat → Nat → Int32} {n : Nat → Nat → Int64} {b : Nat → Nat → Int32} {l : Nat → Int64} {t : List jE} {z : Nat × Nat × Nat × (Nat → Int32)}  : K_m_isSmall D a0 cx f g n b l t z = if a0 < 97 then (some (.inl (some (.int 0)), (jXt cx (jY f g n b l t), z))) else (if 122 < a0 then (some (.inl (some (.int 0)), (jXt cx (jY f g n b l t), z))) else (some (.inl (some (.int 1)), (jXt cx (jY f g n b l t), z)))) := by
  refine (jev_blk 3 (pc' := if a0 < 97 then 8 else 3) (L' := ([some (.int a0)], [])) (S' := []) (h' := (jXt cx (jY f g n b l t), z)) rfl).trans (jev_ite.trans (jite_congr (fun _ => ?_) (fun _ => ?_)))
  · refine (jev_blk 1 (pc' := 9) (L' := ([some (.int a0)], [])) (S' := [.int 0]) (h' := (jXt cx (jY f g n b l t), z)) rfl).trans ?_
    exact jev_fin rfl
  · refine (jev_blk 3 (pc' := if 122 < a0 then 8 else 6) (L' := ([some (.int a0)], [])) (S' := []) (h' := (jXt cx (jY f g n b l t), z)) rfl).trans (jev_ite.trans (jite_congr (fun _ => ?_) (fun _ => ?_)))
    · refine (jev_blk 1 (pc' := 9) (L' := ([some (.int a0)], [])) (S' := [.int 0]) (h' := (jXt cx (jY f g n b l t), z)) rfl).trans ?_
      exact jev_fin rfl
    · refine (jev_blk 2 (pc' := 9) (L' := ([some (.int a0)], [])) (S' := [.int 1]) (h' := (jXt cx (jY f g n b l t), z)) rfl).trans ?_
      exact jev_fin rfl
set_option maxRecDepth 20000 in
theorem E_m_isDigit {D : Nat}  {a0 : Int32} {cx : jCX} {f : Nat → Int32} {g : Nat → Nat → Int32} {n : Nat → Nat → Int64} {b : Nat → Nat → Int32} {l : Nat → Int64} {t : List jE} {z : Nat × Nat × Nat × (Nat → Int32)}  : K_m_isDigit D a0 cx f g n b l t z = if a0 < 48 then (some (.inl (some (.int 0)), (jXt cx (jY f g n b l t), z))) else (if 57 < a0 then (some (.inl (some (.int 0)), (jXt cx (jY f g n b l t), z))) else (some (.inl (some (.int 1)), (jXt cx (jY f g n b l t), z)))) := by
  refine (jev_blk 3 (pc' := if a0 < 48 then 8 else 3) (L' := ([some (.int a0)], [])) (S' := []) (h' := (jXt cx (jY f g n b l t), z)) rfl).trans (jev_ite.trans (jite_congr (fun _ => ?_) (fun _ => ?_)))
  · refine (jev_blk 1 (pc' := 9) (L' := ([some (.int a0)], [])) (S' := [.int 0]) (h' := (jXt cx (jY f g n b l t), z)) rfl).trans ?_
    exact jev_fin rfl
  · refine (jev_blk 3 (pc' := if 57 < a0 then 8 else 6) (L' := ([some (.int a0)], [])) (S' := []) (h' := (jXt cx (jY f g n b l t), z)) rfl).trans (jev_ite.trans (jite_congr (fun _ => ?_) (fun _ => ?_)))
    · refine (jev_blk 1 (pc' := 9) (L' := ([some (.int a0)], [])) (S' := [.int 0]) (h' := (jXt cx (jY f g n b l t), z)) rfl).trans ?_
      exact jev_fin rfl
    · refine (jev_blk 2 (pc' := 9) (L' := ([some (.int a0)], [])) (S' := [.int 1]) (h' := (jXt cx (jY f g n b l t), z)) rfl).trans ?_
      exact jev_fin rfl
set_option maxRecDepth 20000 in
theorem E_m_token {D : Nat}   {cx : jCX} {f : Nat → Int32} {g : Nat → Nat → Int32} {n : Nat → Nat → Int64} {b : Nat → Nat → Int32} {l : Nat → Int64} {t : List jE} {z : Nat × Nat × Nat × (Nat → Int32)} : K_m_token D cx f g n b l t z = jev D 144 0 ([some (.ref 79), none], []) [] (jXt cx (jY f g n b l t), z) := rfl
set_option maxRecDepth 20000 in
theorem L_m_token_0 {D : Nat}  {d1 : Option Value} {cx : jCX} {f : Nat → Int32} {g : Nat → Nat → Int32} {n : Nat → Nat → Int64} {b : Nat → Nat → Int32} {l : Nat → Int64} {t : List jE} {z : Nat × Nat × Nat × (Nat → Int32)}  : jev D 144 0 ([some (.ref 79), d1], []) [] (jXt cx (jY f g n b l t), z) = jbO (K_m_here D cx f g n b l t z) (jk D 144 2 ([some (.ref 79), d1], []) []) := by
  refine (jev_blk 1 (pc' := 1) (L' := ([some (.ref 79), d1], [])) (S' := [.ref 79]) (h' := (jXt cx (jY f g n b l t), z)) rfl).trans ?_
  exact jev_callb (nx := 2) (rest := []) rfl
set_option maxRecDepth 20000 in
theorem E_m_token_2 {D : Nat}  {d1 : Option Value} {u0 : Int32} {cx : jCX} {f : Nat → Int32} {g : Nat → Nat → Int32} {n : Nat → Nat → Int64} {b : Nat → Nat → Int32} {l : Nat → Int64} {t : List jE} {z : Nat × Nat × Nat × (Nat → Int32)}  : jev D 144 2 ([some (.ref 79), d1], []) [.int u0] (jXt cx (jY f g n b l t), z) = if u0 = 10 then (K_m_token_8 D d1 cx f g n b l t z) else (jbO (K_m_here D cx f g n b l t z) (jk D 144 6 ([some (.ref 79), d1], []) [])) := by
  refine (jev_blk 2 (pc' := if u0 = 10 then 8 else 4) (L' := ([some (.ref 79), d1], [])) (S' := []) (h' := (jXt cx (jY f g n b l t), z)) rfl).trans (jev_ite.trans (jite_congr (fun _ => ?_) (fun _ => ?_)))
  · rfl
  · refine (jev_blk 1 (pc' := 5) (L' := ([some (.ref 79), d1], [])) (S' := [.ref 79]) (h' := (jXt cx (jY f g n b l t), z)) rfl).trans ?_
    exact jev_callb (nx := 6) (rest := []) rfl
set_option maxRecDepth 20000 in
theorem E_m_token_8 {D : Nat}  {d1 : Option Value} {cx : jCX} {f : Nat → Int32} {g : Nat → Nat → Int32} {n : Nat → Nat → Int64} {b : Nat → Nat → Int32} {l : Nat → Int64} {t : List jE} {z : Nat × Nat × Nat × (Nat → Int32)}  : K_m_token_8 D d1 cx f g n b l t z = jev D 144 0 ([some (.ref 79), d1], []) [] (jXt cx (jY (jup f 5 (((f 5) + 1))) g n b l t), z) := by
  exact jev_blk 7 rfl
set_option maxRecDepth 20000 in
theorem E_m_token_6 {D : Nat}  {d1 : Option Value} {u0 : Int32} {cx : jCX} {f : Nat → Int32} {g : Nat → Nat → Int32} {n : Nat → Nat → Int64} {b : Nat → Nat → Int32} {l : Nat → Int64} {t : List jE} {z : Nat × Nat × Nat × (Nat → Int32)}  : jev D 144 6 ([some (.ref 79), d1], []) [.int u0] (jXt cx (jY f g n b l t), z) = if u0 = 32 then (K_m_token_8 D d1 cx f g n b l t z) else (jbO (K_m_here D cx (jup f 6 ((f 5))) g n b l t z) (jk D 144 21 ([some (.ref 79), d1], []) [])) := by
  refine (jev_blk 2 (pc' := if u0 = 32 then 8 else 15) (L' := ([some (.ref 79), d1], [])) (S' := []) (h' := (jXt cx (jY f g n b l t), z)) rfl).trans (jev_ite.trans (jite_congr (fun _ => ?_) (fun _ => ?_)))
  · rfl
  · refine (jev_blk 5 (pc' := 20) (L' := ([some (.ref 79), d1], [])) (S' := [.ref 79]) (h' := (jXt cx (jY (jup f 6 ((f 5))) g n b l t), z)) rfl).trans ?_
    exact jev_callb (nx := 21) (rest := []) rfl
set_option maxRecDepth 20000 in
theorem E_m_token_21 {D : Nat}  {d1 : Option Value} {u0 : Int32} {cx : jCX} {f : Nat → Int32} {g : Nat → Nat → Int32} {n : Nat → Nat → Int64} {b : Nat → Nat → Int32} {l : Nat → Int64} {t : List jE} {z : Nat × Nat × Nat × (Nat → Int32)}  : jev D 144 21 ([some (.ref 79), d1], []) [.int u0] (jXt cx (jY f g n b l t), z) = if u0 = (-1) then (some (.inl (none), (jXt cx (jY (jup f 7 (4)) g n b l t), z))) else (jbO (K_m_isSmall D u0 cx f g n b l t z) (jk D 144 31 ([some (.ref 79), some (.int u0)], []) [])) := by
  refine (jev_blk 4 (pc' := if u0 = (-1) then 25 else 29) (L' := ([some (.ref 79), some (.int u0)], [])) (S' := []) (h' := (jXt cx (jY f g n b l t), z)) rfl).trans (jev_ite.trans (jite_congr (fun _ => ?_) (fun _ => ?_)))
  · refine (jev_blk 4 (pc' := 113) (L' := ([some (.ref 79), some (.int u0)], [])) (S' := []) (h' := (jXt cx (jY (jup f 7 (4)) g n b l t), z)) rfl).trans ?_
    exact jev_fin rfl
  · refine (jev_blk 1 (pc' := 30) (L' := ([some (.ref 79), some (.int u0)], [])) (S' := [.int u0]) (h' := (jXt cx (jY f g n b l t), z)) rfl).trans ?_
    exact jev_callb (nx := 31) (rest := []) rfl
set_option maxRecDepth 20000 in
theorem E_m_token_31 {D : Nat}  {x1 : Int32} {u0 : Int32} {cx : jCX} {f : Nat → Int32} {g : Nat → Nat → Int32} {n : Nat → Nat → Int64} {b : Nat → Nat → Int32} {l : Nat → Int64} {t : List jE} {z : Nat × Nat × Nat × (Nat → Int32)}  : jev D 144 31 ([some (.ref 79), some (.int x1)], []) [.int u0] (jXt cx (jY f g n b l t), z) = if u0 = 0 then (jbO (K_m_isDigit D x1 cx f g n b l t z) (jk D 144 74 ([some (.ref 79), some (.int x1)], []) [])) else (K_m_token_32 D (some (.int x1)) cx f g n b l t z) := by
  refine (jev_blk 1 (pc' := if u0 = 0 then 72 else 32) (L' := ([some (.ref 79), some (.int x1)], [])) (S' := []) (h' := (jXt cx (jY f g n b l t), z)) rfl).trans (jev_ite.trans (jite_congr (fun _ => ?_) (fun _ => ?_)))
  · refine (jev_blk 1 (pc' := 73) (L' := ([some (.ref 79), some (.int x1)], [])) (S' := [.int x1]) (h' := (jXt cx (jY f g n b l t), z)) rfl).trans ?_
    exact jev_callb (nx := 74) (rest := []) rfl
  · rfl
set_option maxRecDepth 20000 in
theorem L_m_token_32 {D : Nat}  {d1 : Option Value} {cx : jCX} {f : Nat → Int32} {g : Nat → Nat → Int32} {n : Nat → Nat → Int64} {b : Nat → Nat → Int32} {l : Nat → Int64} {t : List jE} {z : Nat × Nat × Nat × (Nat → Int32)}  : K_m_token_32 D d1 cx f g n b l t z = jbO (K_m_here D cx f g n b l t z) (jk D 144 34 ([some (.ref 79), d1], []) []) := by
  refine (jev_blk 1 (pc' := 33) (L' := ([some (.ref 79), d1], [])) (S' := [.ref 79]) (h' := (jXt cx (jY f g n b l t), z)) rfl).trans ?_
  exact jev_callb (nx := 34) (rest := []) rfl
set_option maxRecDepth 20000 in
theorem E_m_token_74 {D : Nat}  {x1 : Int32} {u0 : Int32} {cx : jCX} {f : Nat → Int32} {g : Nat → Nat → Int32} {n : Nat → Nat → Int64} {b : Nat → Nat → Int32} {l : Nat → Int64} {t : List jE} {z : Nat × Nat × Nat × (Nat → Int32)}  : jev D 144 74 ([some (.ref 79), some (.int x1)], []) [.int u0] (jXt cx (jY f g n b l t), z) = if u0 = 0 then (jbO (K_m_sign D x1 cx f g n b l t z) (jk D 144 113 ([some (.ref 79), some (.int x1)], []) [])) else (K_m_token_81 D (some (.int x1)) cx (jup (jup f 7 (2)) 8 (0)) g n b l t z) := by
  refine (jev_blk 1 (pc' := if u0 = 0 then 110 else 75) (L' := ([some (.ref 79), some (.int x1)], [])) (S' := []) (h' := (jXt cx (jY f g n b l t), z)) rfl).trans (jev_ite.trans (jite_congr (fun _ => ?_) (fun _ => ?_)))
  · refine (jev_blk 2 (pc' := 112) (L' := ([some (.ref 79), some (.int x1)], [])) (S' := [.int x1, .ref 79]) (h' := (jXt cx (jY f g n b l t), z)) rfl).trans ?_
    exact jev_callb (nx := 113) (rest := []) rfl
  · exact jev_blk 6 rfl
set_option maxRecDepth 20000 in
theorem L_m_token_81 {D : Nat}  {d1 : Option Value} {cx : jCX} {f : Nat → Int32} {g : Nat → Nat → Int32} {n : Nat → Nat → Int64} {b : Nat → Nat → Int32} {l : Nat → Int64} {t : List jE} {z : Nat × Nat × Nat × (Nat → Int32)}  : K_m_token_81 D d1 cx f g n b l t z = jbO (K_m_here D cx f g n b l t z) (jk D 144 83 ([some (.ref 79), d1], []) []) := by
  refine (jev_blk 1 (pc' := 82) (L' := ([some (.ref 79), d1], [])) (S' := [.ref 79]) (h' := (jXt cx (jY f g n b l t), z)) rfl).trans ?_
  exact jev_callb (nx := 83) (rest := []) rfl
set_option maxRecDepth 20000 in
theorem E_m_token_34 {D : Nat}  {d1 : Option Value} {u0 : Int32} {cx : jCX} {f : Nat → Int32} {g : Nat → Nat → Int32} {n : Nat → Nat → Int64} {b : Nat → Nat → Int32} {l : Nat → Int64} {t : List jE} {z : Nat × Nat × Nat × (Nat → Int32)}  : jev D 144 34 ([some (.ref 79), d1], []) [.int u0] (jXt cx (jY f g n b l t), z) = jbO (K_m_isSmall D u0 cx f g n b l t z) (jk D 144 35 ([some (.ref 79), d1], []) []) := by
  exact jev_callb (nx := 35) (rest := []) rfl
set_option maxRecDepth 20000 in
theorem E_m_token_113 {D : Nat}  {d1 : Option Value} {cx : jCX} {f : Nat → Int32} {g : Nat → Nat → Int32} {n : Nat → Nat → Int64} {b : Nat → Nat → Int32} {l : Nat → Int64} {t : List jE} {z : Nat × Nat × Nat × (Nat → Int32)}  : jev D 144 113 ([some (.ref 79), d1], []) [] (jXt cx (jY f g n b l t), z) = some (.inl (none), (jXt cx (jY f g n b l t), z)) := by
  exact jev_fin rfl
set_option maxRecDepth 20000 in
theorem E_m_token_83 {D : Nat}  {d1 : Option Value} {u0 : Int32} {cx : jCX} {f : Nat → Int32} {g : Nat → Nat → Int32} {n : Nat → Nat → Int64} {b : Nat → Nat → Int32} {l : Nat → Int64} {t : List jE} {z : Nat × Nat × Nat × (Nat → Int32)}  : jev D 144 83 ([some (.ref 79), d1], []) [.int u0] (jXt cx (jY f g n b l t), z) = jbO (K_m_isDigit D u0 cx f g n b l t z) (jk D 144 84 ([some (.ref 79), d1], []) []) := by
  exact jev_callb (nx := 84) (rest := []) rfl
set_option maxRecDepth 20000 in
theorem E_m_token_35 {D : Nat}  {d1 : Option Value} {u0 : Int32} {cx : jCX} {f : Nat → Int32} {g : Nat → Nat → Int32} {n : Nat → Nat → Int64} {b : Nat → Nat → Int32} {l : Nat → Int64} {t : List jE} {z : Nat × Nat × Nat × (Nat → Int32)}  : jev D 144 35 ([some (.ref 79), d1], []) [.int u0] (jXt cx (jY f g n b l t), z) = if u0 = 0 then (jbO (K_m_word D cx f g n b l t z) (jk D 144 46 ([some (.ref 79), d1], []) [.ref 79])) else (K_m_token_32 D d1 cx (jup f 5 (((f 5) + 1))) g n b l t z) := by
  refine (jev_blk 1 (pc' := if u0 = 0 then 43 else 36) (L' := ([some (.ref 79), d1], [])) (S' := []) (h' := (jXt cx (jY f g n b l t), z)) rfl).trans (jev_ite.trans (jite_congr (fun _ => ?_) (fun _ => ?_)))
  · refine (jev_blk 2 (pc' := 45) (L' := ([some (.ref 79), d1], [])) (S' := [.ref 79, .ref 79]) (h' := (jXt cx (jY f g n b l t), z)) rfl).trans ?_
    exact jev_callb (nx := 46) (rest := [.ref 79]) rfl
  · exact jev_blk 7 rfl
set_option maxRecDepth 20000 in
theorem E_m_token_84 {D : Nat}  {d1 : Option Value} {u0 : Int32} {cx : jCX} {f : Nat → Int32} {g : Nat → Nat → Int32} {n : Nat → Nat → Int64} {b : Nat → Nat → Int32} {l : Nat → Int64} {t : List jE} {z : Nat × Nat × Nat × (Nat → Int32)}  : jev D 144 84 ([some (.ref 79), d1], []) [.int u0] (jXt cx (jY f g n b l t), z) = if u0 = 0 then (some (.inl (none), (jXt cx (jY f g n b l t), z))) else (if 99999 < (f 8) then (K_m_token_102 D d1 (f 8) cx f g n b l t z) else (jbO (K_m_here D cx f g n b l t z) (jk D 144 99 ([some (.ref 79), d1], []) [.int (10 * (f 8)), .ref 79]))) := by
  refine (jev_blk 1 (pc' := if u0 = 0 then 113 else 85) (L' := ([some (.ref 79), d1], [])) (S' := []) (h' := (jXt cx (jY f g n b l t), z)) rfl).trans (jev_ite.trans (jite_congr (fun _ => ?_) (fun _ => ?_)))
  · exact jev_fin rfl
  · refine (jev_blk 5 (pc' := if 99999 < (f 8) then 90 else 93) (L' := ([some (.ref 79), d1], [])) (S' := [.ref 79]) (h' := (jXt cx (jY f g n b l t), z)) rfl).trans (jev_ite.trans (jite_congr (fun _ => ?_) (fun _ => ?_)))
    · exact jev_blk 3 rfl
    · refine (jev_blk 5 (pc' := 98) (L' := ([some (.ref 79), d1], [])) (S' := [.ref 79, .int (10 * (f 8)), .ref 79]) (h' := (jXt cx (jY f g n b l t), z)) rfl).trans ?_
      exact jev_callb (nx := 99) (rest := [.int (10 * (f 8)), .ref 79]) rfl
set_option maxRecDepth 20000 in
theorem E_m_token_102 {D : Nat}  {d1 : Option Value} {u0 : Int32} {cx : jCX} {f : Nat → Int32} {g : Nat → Nat → Int32} {n : Nat → Nat → Int64} {b : Nat → Nat → Int32} {l : Nat → Int64} {t : List jE} {z : Nat × Nat × Nat × (Nat → Int32)}  : K_m_token_102 D d1 u0 cx f g n b l t z = K_m_token_81 D d1 cx (jup (jup f 5 (((f 5) + 1))) 8 (u0)) g n b l t z := by
  exact jev_blk 8 rfl
set_option maxRecDepth 20000 in
theorem E_m_token_46 {D : Nat}  {d1 : Option Value} {u0 : Int32} {cx : jCX} {f : Nat → Int32} {g : Nat → Nat → Int32} {n : Nat → Nat → Int64} {b : Nat → Nat → Int32} {l : Nat → Int64} {t : List jE} {z : Nat × Nat × Nat × (Nat → Int32)}  : jev D 144 46 ([some (.ref 79), d1], []) [.int u0, .ref 79] (jXt cx (jY f g n b l t), z) = if u0 = (-1) then (if 6 < ((f 5) - (f 6)) then (K_m_token_64 D d1 5 cx (jup f 8 (u0)) g n b l t z) else (K_m_token_64 D d1 1 cx (jup f 8 (u0)) g n b l t z)) else (K_m_token_64 D d1 0 cx (jup f 8 (u0)) g n b l t z) := by
  refine (jev_blk 6 (pc' := if u0 = (-1) then 54 else 52) (L' := ([some (.ref 79), d1], [])) (S' := [.ref 79]) (h' := (jXt cx (jY (jup f 8 (u0)) g n b l t), z)) rfl).trans (jev_ite.trans (jite_congr (fun _ => ?_) (fun _ => ?_)))
  · refine (jev_blk 7 (pc' := if 6 < ((f 5) - (f 6)) then 61 else 63) (L' := ([some (.ref 79), d1], [])) (S' := [.ref 79]) (h' := (jXt cx (jY (jup f 8 (u0)) g n b l t), z)) rfl).trans (jev_ite.trans (jite_congr (fun _ => ?_) (fun _ => ?_)))
    · exact jev_blk 2 rfl
    · exact jev_blk 1 rfl
  · exact jev_blk 2 rfl
set_option maxRecDepth 20000 in
theorem E_m_token_64 {D : Nat}  {d1 : Option Value} {u0 : Int32} {cx : jCX} {f : Nat → Int32} {g : Nat → Nat → Int32} {n : Nat → Nat → Int64} {b : Nat → Nat → Int32} {l : Nat → Int64} {t : List jE} {z : Nat × Nat × Nat × (Nat → Int32)}  : K_m_token_64 D d1 u0 cx f g n b l t z = if u0 = 1 then (jbO (K_m_name D cx (jup f 7 (u0)) g n b l t z) (jk D 144 71 ([some (.ref 79), d1], []) [])) else (some (.inl (none), (jXt cx (jY (jup f 7 (u0)) g n b l t), z))) := by
  refine (jev_blk 5 (pc' := if u0 = 1 then 69 else 113) (L' := ([some (.ref 79), d1], [])) (S' := []) (h' := (jXt cx (jY (jup f 7 (u0)) g n b l t), z)) rfl).trans (jev_ite.trans (jite_congr (fun _ => ?_) (fun _ => ?_)))
  · refine (jev_blk 1 (pc' := 70) (L' := ([some (.ref 79), d1], [])) (S' := [.ref 79]) (h' := (jXt cx (jY (jup f 7 (u0)) g n b l t), z)) rfl).trans ?_
    exact jev_callb (nx := 71) (rest := []) rfl
  · exact jev_fin rfl
set_option maxRecDepth 20000 in
theorem E_m_token_99 {D : Nat}  {d1 : Option Value} {u0 : Int32} {u1 : Int32} {cx : jCX} {f : Nat → Int32} {g : Nat → Nat → Int32} {n : Nat → Nat → Int64} {b : Nat → Nat → Int32} {l : Nat → Int64} {t : List jE} {z : Nat × Nat × Nat × (Nat → Int32)}  : jev D 144 99 ([some (.ref 79), d1], []) [.int u0, .int u1, .ref 79] (jXt cx (jY f g n b l t), z) = K_m_token_102 D d1 ((u1 + u0) - 48) cx f g n b l t z := by
  exact jev_blk 3 rfl
set_option maxRecDepth 20000 in
theorem E_m_token_71 {D : Nat}  {d1 : Option Value} {cx : jCX} {f : Nat → Int32} {g : Nat → Nat → Int32} {n : Nat → Nat → Int64} {b : Nat → Nat → Int32} {l : Nat → Int64} {t : List jE} {z : Nat × Nat × Nat × (Nat → Int32)}  : jev D 144 71 ([some (.ref 79), d1], []) [] (jXt cx (jY f g n b l t), z) = some (.inl (none), (jXt cx (jY f g n b l t), z)) := by
  refine (jev_blk 1 (pc' := 113) (L' := ([some (.ref 79), d1], [])) (S' := []) (h' := (jXt cx (jY f g n b l t), z)) rfl).trans ?_
  exact jev_fin rfl
set_option maxRecDepth 20000 in
theorem E_m_sign {D : Nat}  {a0 : Int32} {cx : jCX} {f : Nat → Int32} {g : Nat → Nat → Int32} {n : Nat → Nat → Int64} {b : Nat → Nat → Int32} {l : Nat → Int64} {t : List jE} {z : Nat × Nat × Nat × (Nat → Int32)}  : K_m_sign D a0 cx f g n b l t z = if a0 = 59 then (K_m_sign_37 D a0 cx (jup f 5 (((f 5) + 1))) g n b l t z) else (if a0 = 40 then (K_m_sign_37 D a0 cx (jup f 5 (((f 5) + 1))) g n b l t z) else (if a0 = 41 then (K_m_sign_37 D a0 cx (jup f 5 (((f 5) + 1))) g n b l t z) else (if a0 = 43 then (K_m_sign_37 D a0 cx (jup f 5 (((f 5) + 1))) g n b l t z) else (if a0 = 45 then (K_m_sign_37 D a0 cx (jup f 5 (((f 5) + 1))) g n b l t z) else (if a0 = 42 then (K_m_sign_37 D a0 cx (jup f 5 (((f 5) + 1))) g n b l t z) else (if a0 = 47 then (K_m_sign_37 D a0 cx (jup f 5 (((f 5) + 1))) g n b l t z) else (if a0 = 60 then (K_m_sign_37 D a0 cx (jup f 5 (((f 5) + 1))) g n b l t z) else (if a0 = 61 then (K_m_sign_37 D a0 cx (jup f 5 (((f 5) + 1))) g n b l t z) else (if a0 = 62 then (K_m_sign_37 D a0 cx (jup f 5 (((f 5) + 1))) g n b l t z) else (K_m_sign_40 D a0 5 cx (jup f 5 (((f 5) + 1))) g n b l t z)))))))))) := by
  refine (jev_blk 10 (pc' := if a0 = 59 then 37 else 10) (L' := ([some (.ref 79), some (.int a0)], [])) (S' := [.ref 79]) (h' := (jXt cx (jY (jup f 5 (((f 5) + 1))) g n b l t), z)) rfl).trans (jev_ite.trans (jite_congr (fun _ => ?_) (fun _ => ?_)))
  · rfl
  · refine (jev_blk 3 (pc' := if a0 = 40 then 37 else 13) (L' := ([some (.ref 79), some (.int a0)], [])) (S' := [.ref 79]) (h' := (jXt cx (jY (jup f 5 (((f 5) + 1))) g n b l t), z)) rfl).trans (jev_ite.trans (jite_congr (fun _ => ?_) (fun _ => ?_)))
    · rfl
    · refine (jev_blk 3 (pc' := if a0 = 41 then 37 else 16) (L' := ([some (.ref 79), some (.int a0)], [])) (S' := [.ref 79]) (h' := (jXt cx (jY (jup f 5 (((f 5) + 1))) g n b l t), z)) rfl).trans (jev_ite.trans (jite_congr (fun _ => ?_) (fun _ => ?_)))
      · rfl
      · refine (jev_blk 3 (pc' := if a0 = 43 then 37 else 19) (L' := ([some (.ref 79), some (.int a0)], [])) (S' := [.ref 79]) (h' := (jXt cx (jY (jup f 5 (((f 5) + 1))) g n b l t), z)) rfl).trans (jev_ite.trans (jite_congr (fun _ => ?_) (fun _ => ?_)))
        · rfl
        · refine (jev_blk 3 (pc' := if a0 = 45 then 37 else 22) (L' := ([some (.ref 79), some (.int a0)], [])) (S' := [.ref 79]) (h' := (jXt cx (jY (jup f 5 (((f 5) + 1))) g n b l t), z)) rfl).trans (jev_ite.trans (jite_congr (fun _ => ?_) (fun _ => ?_)))
          · rfl
          · refine (jev_blk 3 (pc' := if a0 = 42 then 37 else 25) (L' := ([some (.ref 79), some (.int a0)], [])) (S' := [.ref 79]) (h' := (jXt cx (jY (jup f 5 (((f 5) + 1))) g n b l t), z)) rfl).trans (jev_ite.trans (jite_congr (fun _ => ?_) (fun _ => ?_)))
            · rfl
            · refine (jev_blk 3 (pc' := if a0 = 47 then 37 else 28) (L' := ([some (.ref 79), some (.int a0)], [])) (S' := [.ref 79]) (h' := (jXt cx (jY (jup f 5 (((f 5) + 1))) g n b l t), z)) rfl).trans (jev_ite.trans (jite_congr (fun _ => ?_) (fun _ => ?_)))
              · rfl
              · refine (jev_blk 3 (pc' := if a0 = 60 then 37 else 31) (L' := ([some (.ref 79), some (.int a0)], [])) (S' := [.ref 79]) (h' := (jXt cx (jY (jup f 5 (((f 5) + 1))) g n b l t), z)) rfl).trans (jev_ite.trans (jite_congr (fun _ => ?_) (fun _ => ?_)))
                · rfl
                · refine (jev_blk 3 (pc' := if a0 = 61 then 37 else 34) (L' := ([some (.ref 79), some (.int a0)], [])) (S' := [.ref 79]) (h' := (jXt cx (jY (jup f 5 (((f 5) + 1))) g n b l t), z)) rfl).trans (jev_ite.trans (jite_congr (fun _ => ?_) (fun _ => ?_)))
                  · rfl
                  · refine (jev_blk 3 (pc' := if a0 = 62 then 37 else 39) (L' := ([some (.ref 79), some (.int a0)], [])) (S' := [.ref 79]) (h' := (jXt cx (jY (jup f 5 (((f 5) + 1))) g n b l t), z)) rfl).trans (jev_ite.trans (jite_congr (fun _ => ?_) (fun _ => ?_)))
                    · rfl
                    · exact jev_blk 1 rfl
set_option maxRecDepth 20000 in
theorem E_m_sign_37 {D : Nat}  {x1 : Int32} {cx : jCX} {f : Nat → Int32} {g : Nat → Nat → Int32} {n : Nat → Nat → Int64} {b : Nat → Nat → Int32} {l : Nat → Int64} {t : List jE} {z : Nat × Nat × Nat × (Nat → Int32)}  : K_m_sign_37 D x1 cx f g n b l t z = K_m_sign_40 D x1 3 cx f g n b l t z := by
  exact jev_blk 2 rfl
set_option maxRecDepth 20000 in
theorem E_m_sign_40 {D : Nat}  {x1 : Int32} {u0 : Int32} {cx : jCX} {f : Nat → Int32} {g : Nat → Nat → Int32} {n : Nat → Nat → Int64} {b : Nat → Nat → Int32} {l : Nat → Int64} {t : List jE} {z : Nat × Nat × Nat × (Nat → Int32)}  : K_m_sign_40 D x1 u0 cx f g n b l t z = if x1 = 60 then (jbO (K_m_here D cx (jup (jup f 7 (u0)) 8 (x1)) g n b l t z) (jk D 145 49 ([some (.ref 79), some (.int x1)], []) [])) else (K_m_sign_54 D x1 cx (jup (jup f 7 (u0)) 8 (x1)) g n b l t z) := by
  refine (jev_blk 7 (pc' := if x1 = 60 then 47 else 54) (L' := ([some (.ref 79), some (.int x1)], [])) (S' := []) (h' := (jXt cx (jY (jup (jup f 7 (u0)) 8 (x1)) g n b l t), z)) rfl).trans (jev_ite.trans (jite_congr (fun _ => ?_) (fun _ => ?_)))
  · refine (jev_blk 1 (pc' := 48) (L' := ([some (.ref 79), some (.int x1)], [])) (S' := [.ref 79]) (h' := (jXt cx (jY (jup (jup f 7 (u0)) 8 (x1)) g n b l t), z)) rfl).trans ?_
    exact jev_callb (nx := 49) (rest := []) rfl
  · rfl
set_option maxRecDepth 20000 in
theorem E_m_sign_54 {D : Nat}  {x1 : Int32} {cx : jCX} {f : Nat → Int32} {g : Nat → Nat → Int32} {n : Nat → Nat → Int64} {b : Nat → Nat → Int32} {l : Nat → Int64} {t : List jE} {z : Nat × Nat × Nat × (Nat → Int32)}  : K_m_sign_54 D x1 cx f g n b l t z = if x1 = 60 then (jbO (K_m_here D cx f g n b l t z) (jk D 145 59 ([some (.ref 79), some (.int x1)], []) [])) else (K_m_sign_64 D x1 cx f g n b l t z) := by
  refine (jev_blk 3 (pc' := if x1 = 60 then 57 else 64) (L' := ([some (.ref 79), some (.int x1)], [])) (S' := []) (h' := (jXt cx (jY f g n b l t), z)) rfl).trans (jev_ite.trans (jite_congr (fun _ => ?_) (fun _ => ?_)))
  · refine (jev_blk 1 (pc' := 58) (L' := ([some (.ref 79), some (.int x1)], [])) (S' := [.ref 79]) (h' := (jXt cx (jY f g n b l t), z)) rfl).trans ?_
    exact jev_callb (nx := 59) (rest := []) rfl
  · rfl
set_option maxRecDepth 20000 in
theorem E_m_sign_64 {D : Nat}  {x1 : Int32} {cx : jCX} {f : Nat → Int32} {g : Nat → Nat → Int32} {n : Nat → Nat → Int64} {b : Nat → Nat → Int32} {l : Nat → Int64} {t : List jE} {z : Nat × Nat × Nat × (Nat → Int32)}  : K_m_sign_64 D x1 cx f g n b l t z = if x1 = 62 then (jbO (K_m_here D cx f g n b l t z) (jk D 145 69 ([some (.ref 79), some (.int x1)], []) [])) else (K_m_sign_74 D (some (.int x1)) cx f g n b l t z) := by
  refine (jev_blk 3 (pc' := if x1 = 62 then 67 else 74) (L' := ([some (.ref 79), some (.int x1)], [])) (S' := []) (h' := (jXt cx (jY f g n b l t), z)) rfl).trans (jev_ite.trans (jite_congr (fun _ => ?_) (fun _ => ?_)))
  · refine (jev_blk 1 (pc' := 68) (L' := ([some (.ref 79), some (.int x1)], [])) (S' := [.ref 79]) (h' := (jXt cx (jY f g n b l t), z)) rfl).trans ?_
    exact jev_callb (nx := 69) (rest := []) rfl
  · rfl
set_option maxRecDepth 20000 in
theorem E_m_sign_74 {D : Nat}  {d1 : Option Value} {cx : jCX} {f : Nat → Int32} {g : Nat → Nat → Int32} {n : Nat → Nat → Int64} {b : Nat → Nat → Int32} {l : Nat → Int64} {t : List jE} {z : Nat × Nat × Nat × (Nat → Int32)}  : K_m_sign_74 D d1 cx f g n b l t z = if (f 8) < 256 then (some (.inl (none), (jXt cx (jY f g n b l t), z))) else (some (.inl (none), (jXt cx (jY (jup f 5 (((f 5) + 1))) g n b l t), z))) := by
  refine (jev_blk 4 (pc' := if (f 8) < 256 then 84 else 78) (L' := ([some (.ref 79), d1], [])) (S' := []) (h' := (jXt cx (jY f g n b l t), z)) rfl).trans (jev_ite.trans (jite_congr (fun _ => ?_) (fun _ => ?_)))
  · exact jev_fin rfl
  · refine (jev_blk 6 (pc' := 84) (L' := ([some (.ref 79), d1], [])) (S' := []) (h' := (jXt cx (jY (jup f 5 (((f 5) + 1))) g n b l t), z)) rfl).trans ?_
    exact jev_fin rfl
set_option maxRecDepth 20000 in
theorem E_m_sign_49 {D : Nat}  {x1 : Int32} {u0 : Int32} {cx : jCX} {f : Nat → Int32} {g : Nat → Nat → Int32} {n : Nat → Nat → Int64} {b : Nat → Nat → Int32} {l : Nat → Int64} {t : List jE} {z : Nat × Nat × Nat × (Nat → Int32)}  : jev D 145 49 ([some (.ref 79), some (.int x1)], []) [.int u0] (jXt cx (jY f g n b l t), z) = if u0 = 61 then (K_m_sign_54 D x1 cx (jup f 8 (256)) g n b l t z) else (K_m_sign_54 D x1 cx f g n b l t z) := by
  refine (jev_blk 2 (pc' := if u0 = 61 then 51 else 54) (L' := ([some (.ref 79), some (.int x1)], [])) (S' := []) (h' := (jXt cx (jY f g n b l t), z)) rfl).trans (jev_ite.trans (jite_congr (fun _ => ?_) (fun _ => ?_)))
  · exact jev_blk 3 rfl
  · rfl
set_option maxRecDepth 20000 in
theorem E_m_sign_59 {D : Nat}  {x1 : Int32} {u0 : Int32} {cx : jCX} {f : Nat → Int32} {g : Nat → Nat → Int32} {n : Nat → Nat → Int64} {b : Nat → Nat → Int32} {l : Nat → Int64} {t : List jE} {z : Nat × Nat × Nat × (Nat → Int32)}  : jev D 145 59 ([some (.ref 79), some (.int x1)], []) [.int u0] (jXt cx (jY f g n b l t), z) = if u0 = 62 then (K_m_sign_64 D x1 cx (jup f 8 (257)) g n b l t z) else (K_m_sign_64 D x1 cx f g n b l t z) := by
  refine (jev_blk 2 (pc' := if u0 = 62 then 61 else 64) (L' := ([some (.ref 79), some (.int x1)], [])) (S' := []) (h' := (jXt cx (jY f g n b l t), z)) rfl).trans (jev_ite.trans (jite_congr (fun _ => ?_) (fun _ => ?_)))
  · exact jev_blk 3 rfl
  · rfl
set_option maxRecDepth 20000 in
theorem E_m_sign_69 {D : Nat}  {d1 : Option Value} {u0 : Int32} {cx : jCX} {f : Nat → Int32} {g : Nat → Nat → Int32} {n : Nat → Nat → Int64} {b : Nat → Nat → Int32} {l : Nat → Int64} {t : List jE} {z : Nat × Nat × Nat × (Nat → Int32)}  : jev D 145 69 ([some (.ref 79), d1], []) [.int u0] (jXt cx (jY f g n b l t), z) = if u0 = 61 then (K_m_sign_74 D d1 cx (jup f 8 (258)) g n b l t z) else (K_m_sign_74 D d1 cx f g n b l t z) := by
  refine (jev_blk 2 (pc' := if u0 = 61 then 71 else 74) (L' := ([some (.ref 79), d1], [])) (S' := []) (h' := (jXt cx (jY f g n b l t), z)) rfl).trans (jev_ite.trans (jite_congr (fun _ => ?_) (fun _ => ?_)))
  · exact jev_blk 3 rfl
  · rfl
set_option maxRecDepth 20000 in
theorem E_m_word {D : Nat}   {cx : jCX} {f : Nat → Int32} {g : Nat → Nat → Int32} {n : Nat → Nat → Int64} {b : Nat → Nat → Int32} {l : Nat → Int64} {t : List jE} {z : Nat × Nat × Nat × (Nat → Int32)}  : K_m_word D cx f g n b l t z = K_m_word_4 D 0 0 none cx f g n b l t z := by
  exact jev_blk 4 rfl
set_option maxRecDepth 20000 in
theorem L_m_word_4 {D : Nat}  {x1 : Int32} {x2 : Int32} {d3 : Option Value} {cx : jCX} {f : Nat → Int32} {g : Nat → Nat → Int32} {n : Nat → Nat → Int64} {b : Nat → Nat → Int32} {l : Nat → Int64} {t : List jE} {z : Nat × Nat × Nat × (Nat → Int32)}  : K_m_word_4 D x1 x2 d3 cx f g n b l t z = if x2 < (Int32.ofNat 111) then (K_m_word_10 D x1 x2 0 cx f g n b l t z) else (some (.inl (some (.int (-1))), (jXt cx (jY f g n b l t), z))) := by
  refine (jev_blk 2 (pc' := 6) (L' := ([some (.ref 79), some (.int x1), some (.int x2), d3], [])) (S' := [.retAddr 2, .int x2]) (h' := (jXt cx (jY f g n b l t), z)) rfl).trans ?_
  refine (jev_prim (a := 2) (As := [.retAddr 2]) (nx := 7) (rest := [.int x2]) rfl (r := some (.int (Int32.ofNat 111))) (h' := (jXt cx (jY f g n b l t), z)) rfl).trans ?_
  refine (jev_blk 1 (pc' := if x2 < (Int32.ofNat 111) then 8 else 65) (L' := ([some (.ref 79), some (.int x1), some (.int x2), d3], [])) (S' := []) (h' := (jXt cx (jY f g n b l t), z)) rfl).trans (jev_ite.trans (jite_congr (fun _ => ?_) (fun _ => ?_)))
  · exact jev_blk 2 rfl
  · refine (jev_blk 1 (pc' := 66) (L' := ([some (.ref 79), some (.int x1), some (.int x2), d3], [])) (S' := [.int (-1)]) (h' := (jXt cx (jY f g n b l t), z)) rfl).trans ?_
    exact jev_fin rfl
set_option maxRecDepth 20000 in
theorem L_m_word_10 {D : Nat}  {x1 : Int32} {x2 : Int32} {x3 : Int32} {cx : jCX} {f : Nat → Int32} {g : Nat → Nat → Int32} {n : Nat → Nat → Int64} {b : Nat → Nat → Int32} {l : Nat → Int64} {t : List jE} {z : Nat × Nat × Nat × (Nat → Int32)}  : K_m_word_10 D x1 x2 x3 cx f g n b l t z = if jout (x2 + x3) 111 then none else (if (Int32.ofNat (jtxt 2 ((x2 + x3).toNatClampNeg))) = 32 then (K_m_word_39 D x1 x2 x3 cx f g n b l t z) else (if ((f 6) + x3) < (f 5) then (if jout ((f 6) + x3) 700 then none else (if jout (x2 + x3) 111 then none else (if (g 0 ((f 6) + x3).toNatClampNeg) = (Int32.ofNat (jtxt 2 ((x2 + x3).toNatClampNeg))) then (K_m_word_10 D x1 x2 (x3 + 1) cx f g n b l t z) else (K_m_word_39 D x1 x2 x3 cx f g n b l t z)))) else (K_m_word_39 D x1 x2 x3 cx f g n b l t z))) := by
  refine (jev_blk 4 (pc' := 14) (L' := ([some (.ref 79), some (.int x1), some (.int x2), some (.int x3)], [])) (S' := [.int (x2 + x3), .retAddr 2]) (h' := (jXt cx (jY f g n b l t), z)) rfl).trans ?_
  refine (jev_prig (a := 3) (As := [.retAddr 2, .int (x2 + x3)]) (nx := 15) (rest := []) rfl (q := jout (x2 + x3) 111) (r := some (.int (Int32.ofNat (jtxt 2 ((x2 + x3).toNatClampNeg))))) (h' := (jXt cx (jY f g n b l t), z)) rfl).trans (jite_congr (fun _ => rfl) (fun _ => ?_))
  refine (jev_blk 2 (pc' := if (Int32.ofNat (jtxt 2 ((x2 + x3).toNatClampNeg))) = 32 then 39 else 17) (L' := ([some (.ref 79), some (.int x1), some (.int x2), some (.int x3)], [])) (S' := []) (h' := (jXt cx (jY f g n b l t), z)) rfl).trans (jev_ite.trans (jite_congr (fun _ => ?_) (fun _ => ?_)))
  · rfl
  · refine (jev_blk 7 (pc' := if ((f 6) + x3) < (f 5) then 24 else 39) (L' := ([some (.ref 79), some (.int x1), some (.int x2), some (.int x3)], [])) (S' := []) (h' := (jXt cx (jY f g n b l t), z)) rfl).trans (jev_ite.trans (jite_congr (fun _ => ?_) (fun _ => ?_)))
    · refine (jev_blk 6 (pc' := 30) (L' := ([some (.ref 79), some (.int x1), some (.int x2), some (.int x3)], [])) (S' := [.int ((f 6) + x3), .ref 80]) (h' := (jXt cx (jY f g n b l t), z)) rfl).trans ?_
      refine (jev_grd (q := jout ((f 6) + x3) 700) (pc' := 31) (L' := ([some (.ref 79), some (.int x1), some (.int x2), some (.int x3)], [])) (S' := [.int (g 0 ((f 6) + x3).toNatClampNeg)]) (h' := (jXt cx (jY f g n b l t), z)) rfl).trans (jite_congr (fun _ => rfl) (fun _ => ?_))
      refine (jev_blk 4 (pc' := 35) (L' := ([some (.ref 79), some (.int x1), some (.int x2), some (.int x3)], [])) (S' := [.int (x2 + x3), .retAddr 2, .int (g 0 ((f 6) + x3).toNatClampNeg)]) (h' := (jXt cx (jY f g n b l t), z)) rfl).trans ?_
      refine (jev_prig (a := 3) (As := [.retAddr 2, .int (x2 + x3)]) (nx := 36) (rest := [.int (g 0 ((f 6) + x3).toNatClampNeg)]) rfl (q := jout (x2 + x3) 111) (r := some (.int (Int32.ofNat (jtxt 2 ((x2 + x3).toNatClampNeg))))) (h' := (jXt cx (jY f g n b l t), z)) rfl).trans (jite_congr (fun _ => rfl) (fun _ => ?_))
      refine (jev_blk 1 (pc' := if (g 0 ((f 6) + x3).toNatClampNeg) = (Int32.ofNat (jtxt 2 ((x2 + x3).toNatClampNeg))) then 37 else 39) (L' := ([some (.ref 79), some (.int x1), some (.int x2), some (.int x3)], [])) (S' := []) (h' := (jXt cx (jY f g n b l t), z)) rfl).trans (jev_ite.trans (jite_congr (fun _ => ?_) (fun _ => ?_)))
      · exact jev_blk 2 rfl
      · rfl
    · rfl
set_option maxRecDepth 20000 in
theorem E_m_word_39 {D : Nat}  {x1 : Int32} {x2 : Int32} {x3 : Int32} {cx : jCX} {f : Nat → Int32} {g : Nat → Nat → Int32} {n : Nat → Nat → Int64} {b : Nat → Nat → Int32} {l : Nat → Int64} {t : List jE} {z : Nat × Nat × Nat × (Nat → Int32)}  : K_m_word_39 D x1 x2 x3 cx f g n b l t z = if jout (x2 + x3) 111 then none else (if (Int32.ofNat (jtxt 2 ((x2 + x3).toNatClampNeg))) = 32 then (if ((f 6) + x3) = (f 5) then (some (.inl (some (.int x1)), (jXt cx (jY f g n b l t), z))) else (K_m_word_55 D x1 x2 (some (.int x3)) cx f g n b l t z)) else (K_m_word_55 D x1 x2 (some (.int x3)) cx f g n b l t z)) := by
  refine (jev_blk 4 (pc' := 43) (L' := ([some (.ref 79), some (.int x1), some (.int x2), some (.int x3)], [])) (S' := [.int (x2 + x3), .retAddr 2]) (h' := (jXt cx (jY f g n b l t), z)) rfl).trans ?_
  refine (jev_prig (a := 3) (As := [.retAddr 2, .int (x2 + x3)]) (nx := 44) (rest := []) rfl (q := jout (x2 + x3) 111) (r := some (.int (Int32.ofNat (jtxt 2 ((x2 + x3).toNatClampNeg))))) (h' := (jXt cx (jY f g n b l t), z)) rfl).trans (jite_congr (fun _ => rfl) (fun _ => ?_))
  refine (jev_blk 2 (pc' := if (Int32.ofNat (jtxt 2 ((x2 + x3).toNatClampNeg))) = 32 then 46 else 55) (L' := ([some (.ref 79), some (.int x1), some (.int x2), some (.int x3)], [])) (S' := []) (h' := (jXt cx (jY f g n b l t), z)) rfl).trans (jev_ite.trans (jite_congr (fun _ => ?_) (fun _ => ?_)))
  · refine (jev_blk 7 (pc' := if ((f 6) + x3) = (f 5) then 53 else 55) (L' := ([some (.ref 79), some (.int x1), some (.int x2), some (.int x3)], [])) (S' := []) (h' := (jXt cx (jY f g n b l t), z)) rfl).trans (jev_ite.trans (jite_congr (fun _ => ?_) (fun _ => ?_)))
    · refine (jev_blk 1 (pc' := 54) (L' := ([some (.ref 79), some (.int x1), some (.int x2), some (.int x3)], [])) (S' := [.int x1]) (h' := (jXt cx (jY f g n b l t), z)) rfl).trans ?_
      exact jev_fin rfl
    · rfl
  · rfl
set_option maxRecDepth 20000 in
theorem L_m_word_55 {D : Nat}  {x1 : Int32} {x2 : Int32} {d3 : Option Value} {cx : jCX} {f : Nat → Int32} {g : Nat → Nat → Int32} {n : Nat → Nat → Int64} {b : Nat → Nat → Int32} {l : Nat → Int64} {t : List jE} {z : Nat × Nat × Nat × (Nat → Int32)}  : K_m_word_55 D x1 x2 d3 cx f g n b l t z = if jout x2 111 then none else (if (Int32.ofNat (jtxt 2 (x2.toNatClampNeg))) = 32 then (K_m_word_4 D (x1 + 1) (x2 + 1) d3 cx f g n b l t z) else (K_m_word_55 D x1 (x2 + 1) d3 cx f g n b l t z)) := by
  refine (jev_blk 2 (pc' := 57) (L' := ([some (.ref 79), some (.int x1), some (.int x2), d3], [])) (S' := [.int x2, .retAddr 2]) (h' := (jXt cx (jY f g n b l t), z)) rfl).trans ?_
  refine (jev_prig (a := 3) (As := [.retAddr 2, .int x2]) (nx := 58) (rest := []) rfl (q := jout x2 111) (r := some (.int (Int32.ofNat (jtxt 2 (x2.toNatClampNeg))))) (h' := (jXt cx (jY f g n b l t), z)) rfl).trans (jite_congr (fun _ => rfl) (fun _ => ?_))
  refine (jev_blk 2 (pc' := if (Int32.ofNat (jtxt 2 (x2.toNatClampNeg))) = 32 then 62 else 60) (L' := ([some (.ref 79), some (.int x1), some (.int x2), d3], [])) (S' := []) (h' := (jXt cx (jY f g n b l t), z)) rfl).trans (jev_ite.trans (jite_congr (fun _ => ?_) (fun _ => ?_)))
  · exact jev_blk 3 rfl
  · exact jev_blk 2 rfl
set_option maxRecDepth 20000 in
theorem E_m_name {D : Nat}   {cx : jCX} {f : Nat → Int32} {g : Nat → Nat → Int32} {n : Nat → Nat → Int64} {b : Nat → Nat → Int32} {l : Nat → Int64} {t : List jE} {z : Nat × Nat × Nat × (Nat → Int32)}  : K_m_name D cx f g n b l t z = K_m_name_5 D 0 cx (jup f 8 (0)) g n b l t z := by
  exact jev_blk 5 rfl
set_option maxRecDepth 20000 in
theorem L_m_name_5 {D : Nat}  {x1 : Int32} {cx : jCX} {f : Nat → Int32} {g : Nat → Nat → Int32} {n : Nat → Nat → Int64} {b : Nat → Nat → Int32} {l : Nat → Int64} {t : List jE} {z : Nat × Nat × Nat × (Nat → Int32)}  : K_m_name_5 D x1 cx f g n b l t z = if x1 < 6 then (if ((f 6) + x1) < (f 5) then (if jout ((f 6) + x1) 700 then none else (K_m_name_33 D x1 (((g 0 ((f 6) + x1).toNatClampNeg) - 97) + 1) ((f 8) <<< (5 &&& 31)) cx f g n b l t z)) else (K_m_name_33 D x1 0 ((f 8) <<< (5 &&& 31)) cx f g n b l t z)) else (some (.inl (none), (jXt cx (jY f g n b l t), z))) := by
  refine (jev_blk 3 (pc' := if x1 < 6 then 8 else 37) (L' := ([some (.ref 79), some (.int x1)], [])) (S' := []) (h' := (jXt cx (jY f g n b l t), z)) rfl).trans (jev_ite.trans (jite_congr (fun _ => ?_) (fun _ => ?_)))
  · refine (jev_blk 12 (pc' := if ((f 6) + x1) < (f 5) then 20 else 32) (L' := ([some (.ref 79), some (.int x1)], [])) (S' := [.int ((f 8) <<< (5 &&& 31)), .ref 79]) (h' := (jXt cx (jY f g n b l t), z)) rfl).trans (jev_ite.trans (jite_congr (fun _ => ?_) (fun _ => ?_)))
    · refine (jev_blk 6 (pc' := 26) (L' := ([some (.ref 79), some (.int x1)], [])) (S' := [.int ((f 6) + x1), .ref 80, .int ((f 8) <<< (5 &&& 31)), .ref 79]) (h' := (jXt cx (jY f g n b l t), z)) rfl).trans ?_
      refine (jev_grd (q := jout ((f 6) + x1) 700) (pc' := 27) (L' := ([some (.ref 79), some (.int x1)], [])) (S' := [.int (g 0 ((f 6) + x1).toNatClampNeg), .int ((f 8) <<< (5 &&& 31)), .ref 79]) (h' := (jXt cx (jY f g n b l t), z)) rfl).trans (jite_congr (fun _ => rfl) (fun _ => ?_))
      exact jev_blk 5 rfl
    · exact jev_blk 1 rfl
  · exact jev_fin rfl
set_option maxRecDepth 20000 in
theorem E_m_name_33 {D : Nat}  {x1 : Int32} {u0 : Int32} {u1 : Int32} {cx : jCX} {f : Nat → Int32} {g : Nat → Nat → Int32} {n : Nat → Nat → Int64} {b : Nat → Nat → Int32} {l : Nat → Int64} {t : List jE} {z : Nat × Nat × Nat × (Nat → Int32)}  : K_m_name_33 D x1 u0 u1 cx f g n b l t z = K_m_name_5 D (x1 + 1) cx (jup f 8 ((u1 ||| u0))) g n b l t z := by
  exact jev_blk 4 rfl
set_option maxRecDepth 20000 in
theorem E_m_wrong {D : Nat}  {a0 : Int32} {cx : jCX} {f : Nat → Int32} {g : Nat → Nat → Int32} {n : Nat → Nat → Int64} {b : Nat → Nat → Int32} {l : Nat → Int64} {t : List jE} {z : Nat × Nat × Nat × (Nat → Int32)}  : K_m_wrong D a0 cx f g n b l t z = if (f 9) = 0 then (some (.inl (none), (jXt cx (jY (jup (jup f 10 ((f 6))) 9 (a0)) g n b l t), z))) else (some (.inl (none), (jXt cx (jY f g n b l t), z))) := by
  refine (jev_blk 3 (pc' := if (f 9) = 0 then 4 else 3) (L' := ([some (.ref 79), some (.int a0)], [])) (S' := []) (h' := (jXt cx (jY f g n b l t), z)) rfl).trans (jev_ite.trans (jite_congr (fun _ => ?_) (fun _ => ?_)))
  · refine (jev_blk 7 (pc' := 11) (L' := ([some (.ref 79), some (.int a0)], [])) (S' := []) (h' := (jXt cx (jY (jup (jup f 10 ((f 6))) 9 (a0)) g n b l t), z)) rfl).trans ?_
    exact jev_fin rfl
  · exact jev_fin rfl
set_option maxRecDepth 20000 in
theorem E_m_isWord {D : Nat}  {a0 : Int32} {cx : jCX} {f : Nat → Int32} {g : Nat → Nat → Int32} {n : Nat → Nat → Int64} {b : Nat → Nat → Int32} {l : Nat → Int64} {t : List jE} {z : Nat × Nat × Nat × (Nat → Int32)}  : K_m_isWord D a0 cx f g n b l t z = if (f 9) = 0 then (if (f 7) = 0 then (if (f 8) = a0 then (some (.inl (some (.int 1)), (jXt cx (jY f g n b l t), z))) else (some (.inl (some (.int 0)), (jXt cx (jY f g n b l t), z)))) else (some (.inl (some (.int 0)), (jXt cx (jY f g n b l t), z)))) else (some (.inl (some (.int 0)), (jXt cx (jY f g n b l t), z))) := by
  refine (jev_blk 3 (pc' := if (f 9) = 0 then 3 else 12) (L' := ([some (.ref 79), some (.int a0)], [])) (S' := []) (h' := (jXt cx (jY f g n b l t), z)) rfl).trans (jev_ite.trans (jite_congr (fun _ => ?_) (fun _ => ?_)))
  · refine (jev_blk 3 (pc' := if (f 7) = 0 then 6 else 12) (L' := ([some (.ref 79), some (.int a0)], [])) (S' := []) (h' := (jXt cx (jY f g n b l t), z)) rfl).trans (jev_ite.trans (jite_congr (fun _ => ?_) (fun _ => ?_)))
    · refine (jev_blk 4 (pc' := if (f 8) = a0 then 10 else 12) (L' := ([some (.ref 79), some (.int a0)], [])) (S' := []) (h' := (jXt cx (jY f g n b l t), z)) rfl).trans (jev_ite.trans (jite_congr (fun _ => ?_) (fun _ => ?_)))
      · refine (jev_blk 2 (pc' := 13) (L' := ([some (.ref 79), some (.int a0)], [])) (S' := [.int 1]) (h' := (jXt cx (jY f g n b l t), z)) rfl).trans ?_
        exact jev_fin rfl
      · refine (jev_blk 1 (pc' := 13) (L' := ([some (.ref 79), some (.int a0)], [])) (S' := [.int 0]) (h' := (jXt cx (jY f g n b l t), z)) rfl).trans ?_
        exact jev_fin rfl
    · refine (jev_blk 1 (pc' := 13) (L' := ([some (.ref 79), some (.int a0)], [])) (S' := [.int 0]) (h' := (jXt cx (jY f g n b l t), z)) rfl).trans ?_
      exact jev_fin rfl
  · refine (jev_blk 1 (pc' := 13) (L' := ([some (.ref 79), some (.int a0)], [])) (S' := [.int 0]) (h' := (jXt cx (jY f g n b l t), z)) rfl).trans ?_
    exact jev_fin rfl
set_option maxRecDepth 20000 in
theorem E_m_isSign {D : Nat}  {a0 : Int32} {cx : jCX} {f : Nat → Int32} {g : Nat → Nat → Int32} {n : Nat → Nat → Int64} {b : Nat → Nat → Int32} {l : Nat → Int64} {t : List jE} {z : Nat × Nat × Nat × (Nat → Int32)}  : K_m_isSign D a0 cx f g n b l t z = if (f 9) = 0 then (if (f 7) = 3 then (if (f 8) = a0 then (some (.inl (some (.int 1)), (jXt cx (jY f g n b l t), z))) else (some (.inl (some (.int 0)), (jXt cx (jY f g n b l t), z)))) else (some (.inl (some (.int 0)), (jXt cx (jY f g n b l t), z)))) else (some (.inl (some (.int 0)), (jXt cx (jY f g n b l t), z))) := by
  refine (jev_blk 3 (pc' := if (f 9) = 0 then 3 else 13) (L' := ([some (.ref 79), some (.int a0)], [])) (S' := []) (h' := (jXt cx (jY f g n b l t), z)) rfl).trans (jev_ite.trans (jite_congr (fun _ => ?_) (fun _ => ?_)))
  · refine (jev_blk 4 (pc' := if (f 7) = 3 then 7 else 13) (L' := ([some (.ref 79), some (.int a0)], [])) (S' := []) (h' := (jXt cx (jY f g n b l t), z)) rfl).trans (jev_ite.trans (jite_congr (fun _ => ?_) (fun _ => ?_)))
    · refine (jev_blk 4 (pc' := if (f 8) = a0 then 11 else 13) (L' := ([some (.ref 79), some (.int a0)], [])) (S' := []) (h' := (jXt cx (jY f g n b l t), z)) rfl).trans (jev_ite.trans (jite_congr (fun _ => ?_) (fun _ => ?_)))
      · refine (jev_blk 2 (pc' := 14) (L' := ([some (.ref 79), some (.int a0)], [])) (S' := [.int 1]) (h' := (jXt cx (jY f g n b l t), z)) rfl).trans ?_
        exact jev_fin rfl
      · refine (jev_blk 1 (pc' := 14) (L' := ([some (.ref 79), some (.int a0)], [])) (S' := [.int 0]) (h' := (jXt cx (jY f g n b l t), z)) rfl).trans ?_
        exact jev_fin rfl
    · refine (jev_blk 1 (pc' := 14) (L' := ([some (.ref 79), some (.int a0)], [])) (S' := [.int 0]) (h' := (jXt cx (jY f g n b l t), z)) rfl).trans ?_
      exact jev_fin rfl
  · refine (jev_blk 1 (pc' := 14) (L' := ([some (.ref 79), some (.int a0)], [])) (S' := [.int 0]) (h' := (jXt cx (jY f g n b l t), z)) rfl).trans ?_
    exact jev_fin rfl
set_option maxRecDepth 20000 in
theorem E_m_goOn {D : Nat}   {cx : jCX} {f : Nat → Int32} {g : Nat → Nat → Int32} {n : Nat → Nat → Int64} {b : Nat → Nat → Int32} {l : Nat → Int64} {t : List jE} {z : Nat × Nat × Nat × (Nat → Int32)}  : K_m_goOn D cx f g n b l t z = if (f 9) = 0 then (jbO (K_m_token D cx f g n b l t z) (jk D 151 5 ([some (.ref 79)], []) [])) else (some (.inl (none), (jXt cx (jY f g n b l t), z))) := by
  refine (jev_blk 3 (pc' := if (f 9) = 0 then 3 else 5) (L' := ([some (.ref 79)], [])) (S' := []) (h' := (jXt cx (jY f g n b l t), z)) rfl).trans (jev_ite.trans (jite_congr (fun _ => ?_) (fun _ => ?_)))
  · refine (jev_blk 1 (pc' := 4) (L' := ([some (.ref 79)], [])) (S' := [.ref 79]) (h' := (jXt cx (jY f g n b l t), z)) rfl).trans ?_
    exact jev_callb (nx := 5) (rest := []) rfl
  · exact jev_fin rfl
set_option maxRecDepth 20000 in
theorem E_m_goOn_5 {D : Nat}   {cx : jCX} {f : Nat → Int32} {g : Nat → Nat → Int32} {n : Nat → Nat → Int64} {b : Nat → Nat → Int32} {l : Nat → Int64} {t : List jE} {z : Nat × Nat × Nat × (Nat → Int32)}  : jev D 151 5 ([some (.ref 79)], []) [] (jXt cx (jY f g n b l t), z) = some (.inl (none), (jXt cx (jY f g n b l t), z)) := by
  exact jev_fin rfl
set_option maxRecDepth 20000 in
theorem E_m_numeral {D : Nat}  {a0 : Int32} {a1 : Int32} {cx : jCX} {f : Nat → Int32} {g : Nat → Nat → Int32} {n : Nat → Nat → Int64} {b : Nat → Nat → Int32} {l : Nat → Int64} {t : List jE} {z : Nat × Nat × Nat × (Nat → Int32)}  : K_m_numeral D a0 a1 cx f g n b l t z = if (f 9) = 0 then (if (f 7) = 2 then (if (f 8) < a0 then (K_m_numeral_21 D a0 (some (.int a1)) none cx f g n b l t z) else (if a1 < (f 8) then (K_m_numeral_21 D a0 (some (.int a1)) none cx f g n b l t z) else (K_m_numeral_24 D a0 (some (.int a1)) none cx f g n b l t z))) else (jbO (K_m_wrong D 1 cx f g n b l t z) (jk D 152 12 ([some (.ref 79), some (.int a0), some (.int a1), none], []) []))) else (some (.inl (some (.int a0)), (jXt cx (jY f g n b l t), z))) := by
  refine (jev_blk 3 (pc' := if (f 9) = 0 then 5 else 3) (L' := ([some (.ref 79), some (.int a0), some (.int a1), none], [])) (S' := []) (h' := (jXt cx (jY f g n b l t), z)) rfl).trans (jev_ite.trans (jite_congr (fun _ => ?_) (fun _ => ?_)))
  · refine (jev_blk 4 (pc' := if (f 7) = 2 then 13 else 9) (L' := ([some (.ref 79), some (.int a0), some (.int a1), none], [])) (S' := []) (h' := (jXt cx (jY f g n b l t), z)) rfl).trans (jev_ite.trans (jite_congr (fun _ => ?_) (fun _ => ?_)))
    · refine (jev_blk 4 (pc' := if (f 8) < a0 then 21 else 17) (L' := ([some (.ref 79), some (.int a0), some (.int a1), none], [])) (S' := []) (h' := (jXt cx (jY f g n b l t), z)) rfl).trans (jev_ite.trans (jite_congr (fun _ => ?_) (fun _ => ?_)))
      · rfl
      · refine (jev_blk 4 (pc' := if a1 < (f 8) then 21 else 24) (L' := ([some (.ref 79), some (.int a0), some (.int a1), none], [])) (S' := []) (h' := (jXt cx (jY f g n b l t), z)) rfl).trans (jev_ite.trans (jite_congr (fun _ => ?_) (fun _ => ?_)))
        · rfl
        · rfl
    · refine (jev_blk 2 (pc' := 11) (L' := ([some (.ref 79), some (.int a0), some (.int a1), none], [])) (S' := [.int 1, .ref 79]) (h' := (jXt cx (jY f g n b l t), z)) rfl).trans ?_
      exact jev_callb (nx := 12) (rest := []) rfl
  · refine (jev_blk 1 (pc' := 4) (L' := ([some (.ref 79), some (.int a0), some (.int a1), none], [])) (S' := [.int a0]) (h' := (jXt cx (jY f g n b l t), z)) rfl).trans ?_
    exact jev_fin rfl
set_option maxRecDepth 20000 in
theorem E_m_numeral_21 {D : Nat}  {x1 : Int32} {d2 : Option Value} {d3 : Option Value} {cx : jCX} {f : Nat → Int32} {g : Nat → Nat → Int32} {n : Nat → Nat → Int64} {b : Nat → Nat → Int32} {l : Nat → Int64} {t : List jE} {z : Nat × Nat × Nat × (Nat → Int32)}  : K_m_numeral_21 D x1 d2 d3 cx f g n b l t z = jbO (K_m_wrong D 2 cx f g n b l t z) (jk D 152 24 ([some (.ref 79), some (.int x1), d2, d3], []) []) := by
  refine (jev_blk 2 (pc' := 23) (L' := ([some (.ref 79), some (.int x1), d2, d3], [])) (S' := [.int 2, .ref 79]) (h' := (jXt cx (jY f g n b l t), z)) rfl).trans ?_
  exact jev_callb (nx := 24) (rest := []) rfl
set_option maxRecDepth 20000 in
theorem E_m_numeral_24 {D : Nat}  {x1 : Int32} {d2 : Option Value} {d3 : Option Value} {cx : jCX} {f : Nat → Int32} {g : Nat → Nat → Int32} {n : Nat → Nat → Int64} {b : Nat → Nat → Int32} {l : Nat → Int64} {t : List jE} {z : Nat × Nat × Nat × (Nat → Int32)}  : K_m_numeral_24 D x1 d2 d3 cx f g n b l t z = if (f 9) = 0 then (jbO (K_m_token D cx f g n b l t z) (jk D 152 34 ([some (.ref 79), some (.int x1), d2, some (.int (f 8))], []) [])) else (some (.inl (some (.int x1)), (jXt cx (jY f g n b l t), z))) := by
  refine (jev_blk 3 (pc' := if (f 9) = 0 then 29 else 27) (L' := ([some (.ref 79), some (.int x1), d2, d3], [])) (S' := []) (h' := (jXt cx (jY f g n b l t), z)) rfl).trans (jev_ite.trans (jite_congr (fun _ => ?_) (fun _ => ?_)))
  · refine (jev_blk 4 (pc' := 33) (L' := ([some (.ref 79), some (.int x1), d2, some (.int (f 8))], [])) (S' := [.ref 79]) (h' := (jXt cx (jY f g n b l t), z)) rfl).trans ?_
    exact jev_callb (nx := 34) (rest := []) rfl
  · refine (jev_blk 1 (pc' := 28) (L' := ([some (.ref 79), some (.int x1), d2, d3], [])) (S' := [.int x1]) (h' := (jXt cx (jY f g n b l t), z)) rfl).trans ?_
    exact jev_fin rfl
set_option maxRecDepth 20000 in
theorem E_m_numeral_12 {D : Nat}  {x1 : Int32} {d2 : Option Value} {d3 : Option Value} {cx : jCX} {f : Nat → Int32} {g : Nat → Nat → Int32} {n : Nat → Nat → Int64} {b : Nat → Nat → Int32} {l : Nat → Int64} {t : List jE} {z : Nat × Nat × Nat × (Nat → Int32)}  : jev D 152 12 ([some (.ref 79), some (.int x1), d2, d3], []) [] (jXt cx (jY f g n b l t), z) = K_m_numeral_24 D x1 d2 d3 cx f g n b l t z := by
  exact jev_blk 1 rfl
theorem F_m_numeral_24 {D : Nat}  {x1 : Int32} {d2 : Option Value} {d3 : Option Value} {cx : jCX} {f : Nat → Int32} {g : Nat → Nat → Int32} {n : Nat → Nat → Int64} {b : Nat → Nat → Int32} {l : Nat → Int64} {t : List jE} {z : Nat × Nat × Nat × (Nat → Int32)} : jev D 152 24 ([some (.ref 79), some (.int x1), d2, d3], []) [] (jXt cx (jY f g n b l t), z) = K_m_numeral_24 D x1 d2 d3 cx f g n b l t z := rfl
set_option maxRecDepth 20000 in
theorem E_m_numeral_34 {D : Nat}  {d1 : Option Value} {d2 : Option Value} {x3 : Int32} {cx : jCX} {f : Nat → Int32} {g : Nat → Nat → Int32} {n : Nat → Nat → Int64} {b : Nat → Nat → Int32} {l : Nat → Int64} {t : List jE} {z : Nat × Nat × Nat × (Nat → Int32)}  : jev D 152 34 ([some (.ref 79), d1, d2, some (.int x3)], []) [] (jXt cx (jY f g n b l t), z) = some (.inl (some (.int x3)), (jXt cx (jY f g n b l t), z)) := by
  refine (jev_blk 1 (pc' := 35) (L' := ([some (.ref 79), d1, d2, some (.int x3)], [])) (S' := [.int x3]) (h' := (jXt cx (jY f g n b l t), z)) rfl).trans ?_
  exact jev_fin rfl
set_option maxRecDepth 20000 in
theorem E_m_found {D : Nat}  {a1 : Int32} {a2 : Int32} {a3 : Int32} {cx : jCX} {f : Nat → Int32} {g : Nat → Nat → Int32} {n : Nat → Nat → Int64} {b : Nat → Nat → Int32} {l : Nat → Int64} {t : List jE} {z : Nat × Nat × Nat × (Nat → Int32)}  : K_m_found D a1 a2 a3 cx f g n b l t z = K_m_found_2 D a1 a2 a3 0 cx f g n b l t z := by
  exact jev_blk 2 rfl
