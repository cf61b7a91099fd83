-- EQUATIONS: one a block; E_ unfolds, L_ a loop's head
set_option maxRecDepth 20000 in
theorem E_m_negation_8 {D : Nat}  {d1 : Option Value} {cx : jCX} {f : Nat → Int32} {g : Nat → Nat → Int32} {n : Nat → Nat → Int64} {b : Nat → Nat → Int32} {l : Nat → Int64} {t : List jE} {z : Nat × Nat × Nat × (Nat → Int32)}  : jev (D + 1) 169 8 ([some (.ref 79), d1], []) [] (jXt cx (jY f g n b l t), z) = jbO (K_m_negation D cx f g n b l t z) (jk (D + 1) 169 10 ([some (.ref 79), d1], []) []) := by
  refine (jev_blk 1 (pc' := 9) (L' := ([some (.ref 79), d1], [])) (S' := [.ref 79]) (h' := (jXt cx (jY f g n b l t), z)) rfl).trans ?_
  exact jev_callb (nx := 10) (rest := []) rfl
set_option maxRecDepth 20000 in
theorem E_m_negation_48 {D : Nat}  {x1 : Int32} {cx : jCX} {f : Nat → Int32} {g : Nat → Nat → Int32} {n : Nat → Nat → Int64} {b : Nat → Nat → Int32} {l : Nat → Int64} {t : List jE} {z : Nat × Nat × Nat × (Nat → Int32)}  : jev (D + 1) 169 48 ([some (.ref 79), some (.int x1)], []) [] (jXt cx (jY f g n b l t), z) = jbO (K_m_sum D cx f g n b l t z) (jk (D + 1) 169 50 ([some (.ref 79), some (.int x1)], []) []) := by
  refine (jev_blk 1 (pc' := 49) (L' := ([some (.ref 79), some (.int x1)], [])) (S' := [.ref 79]) (h' := (jXt cx (jY f g n b l t), z)) rfl).trans ?_
  exact jev_callb (nx := 50) (rest := []) rfl
set_option maxRecDepth 20000 in
theorem E_m_negation_10 {D : Nat}  {d1 : Option Value} {cx : jCX} {f : Nat → Int32} {g : Nat → Nat → Int32} {n : Nat → Nat → Int64} {b : Nat → Nat → Int32} {l : Nat → Int64} {t : List jE} {z : Nat × Nat × Nat × (Nat → Int32)}  : jev D 169 10 ([some (.ref 79), d1], []) [] (jXt cx (jY f g n b l t), z) = jbO (K_m_puts D 2 260 cx f g n b l t z) (jk D 169 14 ([some (.ref 79), d1], []) []) := by
  refine (jev_blk 3 (pc' := 13) (L' := ([some (.ref 79), d1], [])) (S' := [.int 260, .int 2, .ref 79]) (h' := (jXt cx (jY f g n b l t), z)) rfl).trans ?_
  exact jev_callb (nx := 14) (rest := []) rfl
set_option maxRecDepth 20000 in
theorem E_m_negation_50 {D : Nat}  {x1 : Int32} {cx : jCX} {f : Nat → Int32} {g : Nat → Nat → Int32} {n : Nat → Nat → Int64} {b : Nat → Nat → Int32} {l : Nat → Int64} {t : List jE} {z : Nat × Nat × Nat × (Nat → Int32)}  : jev D 169 50 ([some (.ref 79), some (.int x1)], []) [] (jXt cx (jY f g n b l t), z) = jbO (K_m_puts D 2 x1 cx f g n b l t z) (jk D 169 54 ([some (.ref 79), some (.int x1)], []) []) := by
  refine (jev_blk 3 (pc' := 53) (L' := ([some (.ref 79), some (.int x1)], [])) (S' := [.int x1, .int 2, .ref 79]) (h' := (jXt cx (jY f g n b l t), z)) rfl).trans ?_
  exact jev_callb (nx := 54) (rest := []) rfl
set_option maxRecDepth 20000 in
theorem E_m_negation_14 {D : Nat}  {d1 : Option Value} {cx : jCX} {f : Nat → Int32} {g : Nat → Nat → Int32} {n : Nat → Nat → Int64} {b : Nat → Nat → Int32} {l : Nat → Int64} {t : List jE} {z : Nat × Nat × Nat × (Nat → Int32)}  : jev D 169 14 ([some (.ref 79), d1], []) [] (jXt cx (jY f g n b l t), z) = some (.inl (none), (jXt cx (jY f g n b l t), z)) := by
  exact jev_fin rfl
set_option maxRecDepth 20000 in
theorem E_m_negation_54 {D : Nat}  {d1 : Option Value} {cx : jCX} {f : Nat → Int32} {g : Nat → Nat → Int32} {n : Nat → Nat → Int64} {b : Nat → Nat → Int32} {l : Nat → Int64} {t : List jE} {z : Nat × Nat × Nat × (Nat → Int32)}  : jev D 169 54 ([some (.ref 79), d1], []) [] (jXt cx (jY f g n b l t), z) = some (.inl (none), (jXt cx (jY f g n b l t), z)) := by
  exact jev_fin rfl
set_option maxRecDepth 20000 in
theorem E_m_sum {D : Nat}   {cx : jCX} {f : Nat → Int32} {g : Nat → Nat → Int32} {n : Nat → Nat → Int64} {b : Nat → Nat → Int32} {l : Nat → Int64} {t : List jE} {z : Nat × Nat × Nat × (Nat → Int32)}  : K_m_sum (D + 1) cx f g n b l t z = jbO (K_m_product D cx f g n b l t z) (jk (D + 1) 170 2 ([some (.ref 79), none], []) []) := by
  refine (jev_blk 1 (pc' := 1) (L' := ([some (.ref 79), none], [])) (S' := [.ref 79]) (h' := (jXt cx (jY f g n b l t), z)) rfl).trans ?_
  exact jev_callb (nx := 2) (rest := []) rfl
theorem F_m_sum_2 {D : Nat}  {d1 : Option Value} {cx : jCX} {f : Nat → Int32} {g : Nat → Nat → Int32} {n : Nat → Nat → Int64} {b : Nat → Nat → Int32} {l : Nat → Int64} {t : List jE} {z : Nat × Nat × Nat × (Nat → Int32)} : jev D 170 2 ([some (.ref 79), d1], []) [] (jXt cx (jY f g n b l t), z) = K_m_sum_2 D d1 cx f g n b l t z := rfl
set_option maxRecDepth 20000 in
theorem L_m_sum_2 {D : Nat}  {d1 : Option Value} {cx : jCX} {f : Nat → Int32} {g : Nat → Nat → Int32} {n : Nat → Nat → Int64} {b : Nat → Nat → Int32} {l : Nat → Int64} {t : List jE} {z : Nat × Nat × Nat × (Nat → Int32)}  : K_m_sum_2 D d1 cx f g n b l t z = jbO (K_m_isSign D 43 cx f g n b l t z) (jk D 170 5 ([some (.ref 79), d1], []) []) := by
  refine (jev_blk 2 (pc' := 4) (L' := ([some (.ref 79), d1], [])) (S' := [.int 43, .ref 79]) (h' := (jXt cx (jY f g n b l t), z)) rfl).trans ?_
  exact jev_callb (nx := 5) (rest := []) rfl
set_option maxRecDepth 20000 in
theorem E_m_sum_5 {D : Nat}  {d1 : Option Value} {u0 : Int32} {cx : jCX} {f : Nat → Int32} {g : Nat → Nat → Int32} {n : Nat → Nat → Int64} {b : Nat → Nat → Int32} {l : Nat → Int64} {t : List jE} {z : Nat × Nat × Nat × (Nat → Int32)}  : jev D 170 5 ([some (.ref 79), d1], []) [.int u0] (jXt cx (jY f g n b l t), z) = if u0 = 0 then (jbO (K_m_isSign D 45 cx f g n b l t z) (jk D 170 9 ([some (.ref 79), d1], []) [])) else (K_m_sum_10 D d1 cx f g n b l t z) := by
  refine (jev_blk 1 (pc' := if u0 = 0 then 6 else 10) (L' := ([some (.ref 79), d1], [])) (S' := []) (h' := (jXt cx (jY f g n b l t), z)) rfl).trans (jev_ite.trans (jite_congr (fun _ => ?_) (fun _ => ?_)))
  · refine (jev_blk 2 (pc' := 8) (L' := ([some (.ref 79), d1], [])) (S' := [.int 45, .ref 79]) (h' := (jXt cx (jY f g n b l t), z)) rfl).trans ?_
    exact jev_callb (nx := 9) (rest := []) rfl
  · rfl
set_option maxRecDepth 20000 in
theorem E_m_sum_10 {D : Nat}  {d1 : Option Value} {cx : jCX} {f : Nat → Int32} {g : Nat → Nat → Int32} {n : Nat → Nat → Int64} {b : Nat → Nat → Int32} {l : Nat → Int64} {t : List jE} {z : Nat × Nat × Nat × (Nat → Int32)}  : K_m_sum_10 D d1 cx f g n b l t z = jbO (K_m_knot D cx f g n b l t z) (jk D 170 15 ([some (.ref 79), some (.int (f 8))], []) []) := by
  refine (jev_blk 4 (pc' := 14) (L' := ([some (.ref 79), some (.int (f 8))], [])) (S' := [.ref 79]) (h' := (jXt cx (jY f g n b l t), z)) rfl).trans ?_
  exact jev_callb (nx := 15) (rest := []) rfl
set_option maxRecDepth 20000 in
theorem E_m_sum_9 {D : Nat}  {d1 : Option Value} {u0 : Int32} {cx : jCX} {f : Nat → Int32} {g : Nat → Nat → Int32} {n : Nat → Nat → Int64} {b : Nat → Nat → Int32} {l : Nat → Int64} {t : List jE} {z : Nat × Nat × Nat × (Nat → Int32)}  : jev D 170 9 ([some (.ref 79), d1], []) [.int u0] (jXt cx (jY f g n b l t), z) = if u0 = 0 then (some (.inl (none), (jXt cx (jY f g n b l t), z))) else (K_m_sum_10 D d1 cx f g n b l t z) := by
  refine (jev_blk 1 (pc' := if u0 = 0 then 24 else 10) (L' := ([some (.ref 79), d1], [])) (S' := []) (h' := (jXt cx (jY f g n b l t), z)) rfl).trans (jev_ite.trans (jite_congr (fun _ => ?_) (fun _ => ?_)))
  · exact jev_fin rfl
  · rfl
set_option maxRecDepth 20000 in
theorem E_m_sum_15 {D : Nat}  {x1 : Int32} {cx : jCX} {f : Nat → Int32} {g : Nat → Nat → Int32} {n : Nat → Nat → Int64} {b : Nat → Nat → Int32} {l : Nat → Int64} {t : List jE} {z : Nat × Nat × Nat × (Nat → Int32)}  : jev D 170 15 ([some (.ref 79), some (.int x1)], []) [] (jXt cx (jY f g n b l t), z) = jbO (K_m_goOn D cx f g n b l t z) (jk D 170 17 ([some (.ref 79), some (.int x1)], []) []) := by
  refine (jev_blk 1 (pc' := 16) (L' := ([some (.ref 79), some (.int x1)], [])) (S' := [.ref 79]) (h' := (jXt cx (jY f g n b l t), z)) rfl).trans ?_
  exact jev_callb (nx := 17) (rest := []) rfl
set_option maxRecDepth 20000 in
theorem E_m_sum_17 {D : Nat}  {x1 : Int32} {cx : jCX} {f : Nat → Int32} {g : Nat → Nat → Int32} {n : Nat → Nat → Int64} {b : Nat → Nat → Int32} {l : Nat → Int64} {t : List jE} {z : Nat × Nat × Nat × (Nat → Int32)}  : jev (D + 1) 170 17 ([some (.ref 79), some (.int x1)], []) [] (jXt cx (jY f g n b l t), z) = jbO (K_m_product D cx f g n b l t z) (jk (D + 1) 170 19 ([some (.ref 79), some (.int x1)], []) []) := by
  refine (jev_blk 1 (pc' := 18) (L' := ([some (.ref 79), some (.int x1)], [])) (S' := [.ref 79]) (h' := (jXt cx (jY f g n b l t), z)) rfl).trans ?_
  exact jev_callb (nx := 19) (rest := []) rfl
set_option maxRecDepth 20000 in
theorem E_m_sum_19 {D : Nat}  {x1 : Int32} {cx : jCX} {f : Nat → Int32} {g : Nat → Nat → Int32} {n : Nat → Nat → Int64} {b : Nat → Nat → Int32} {l : Nat → Int64} {t : List jE} {z : Nat × Nat × Nat × (Nat → Int32)}  : jev D 170 19 ([some (.ref 79), some (.int x1)], []) [] (jXt cx (jY f g n b l t), z) = jbO (K_m_puts D 2 x1 cx f g n b l t z) (jk D 170 23 ([some (.ref 79), some (.int x1)], []) []) := by
  refine (jev_blk 3 (pc' := 22) (L' := ([some (.ref 79), some (.int x1)], [])) (S' := [.int x1, .int 2, .ref 79]) (h' := (jXt cx (jY f g n b l t), z)) rfl).trans ?_
  exact jev_callb (nx := 23) (rest := []) rfl
set_option maxRecDepth 20000 in
theorem E_m_sum_23 {D : Nat}  {d1 : Option Value} {cx : jCX} {f : Nat → Int32} {g : Nat → Nat → Int32} {n : Nat → Nat → Int64} {b : Nat → Nat → Int32} {l : Nat → Int64} {t : List jE} {z : Nat × Nat × Nat × (Nat → Int32)}  : jev D 170 23 ([some (.ref 79), d1], []) [] (jXt cx (jY f g n b l t), z) = K_m_sum_2 D d1 cx f g n b l t z := by
  exact jev_blk 1 rfl
set_option maxRecDepth 20000 in
theorem E_m_product {D : Nat}   {cx : jCX} {f : Nat → Int32} {g : Nat → Nat → Int32} {n : Nat → Nat → Int64} {b : Nat → Nat → Int32} {l : Nat → Int64} {t : List jE} {z : Nat × Nat × Nat × (Nat → Int32)}  : K_m_product (D + 1) cx f g n b l t z = jbO (K_m_primary D cx f g n b l t z) (jk (D + 1) 171 2 ([some (.ref 79), none], []) []) := by
  refine (jev_blk 1 (pc' := 1) (L' := ([some (.ref 79), none], [])) (S' := [.ref 79]) (h' := (jXt cx (jY f g n b l t), z)) rfl).trans ?_
  exact jev_callb (nx := 2) (rest := []) rfl
theorem F_m_product_2 {D : Nat}  {d1 : Option Value} {cx : jCX} {f : Nat → Int32} {g : Nat → Nat → Int32} {n : Nat → Nat → Int64} {b : Nat → Nat → Int32} {l : Nat → Int64} {t : List jE} {z : Nat × Nat × Nat × (Nat → Int32)} : jev D 171 2 ([some (.ref 79), d1], []) [] (jXt cx (jY f g n b l t), z) = K_m_product_2 D d1 cx f g n b l t z := rfl
set_option maxRecDepth 20000 in
theorem L_m_product_2 {D : Nat}  {d1 : Option Value} {cx : jCX} {f : Nat → Int32} {g : Nat → Nat → Int32} {n : Nat → Nat → Int64} {b : Nat → Nat → Int32} {l : Nat → Int64} {t : List jE} {z : Nat × Nat × Nat × (Nat → Int32)}  : K_m_product_2 D d1 cx f g n b l t z = jbO (K_m_isSign D 42 cx f g n b l t z) (jk D 171 5 ([some (.ref 79), d1], []) []) := by
  refine (jev_blk 2 (pc' := 4) (L' := ([some (.ref 79), d1], [])) (S' := [.int 42, .ref 79]) (h' := (jXt cx (jY f g n b l t), z)) rfl).trans ?_
  exact jev_callb (nx := 5) (rest := []) rfl
set_option maxRecDepth 20000 in
theorem E_m_product_5 {D : Nat}  {d1 : Option Value} {u0 : Int32} {cx : jCX} {f : Nat → Int32} {g : Nat → Nat → Int32} {n : Nat → Nat → Int64} {b : Nat → Nat → Int32} {l : Nat → Int64} {t : List jE} {z : Nat × Nat × Nat × (Nat → Int32)}  : jev D 171 5 ([some (.ref 79), d1], []) [.int u0] (jXt cx (jY f g n b l t), z) = if u0 = 0 then (jbO (K_m_isSign D 47 cx f g n b l t z) (jk D 171 9 ([some (.ref 79), d1], []) [])) else (K_m_product_10 D d1 cx f g n b l t z) := by
  refine (jev_blk 1 (pc' := if u0 = 0 then 6 else 10) (L' := ([some (.ref 79), d1], [])) (S' := []) (h' := (jXt cx (jY f g n b l t), z)) rfl).trans (jev_ite.trans (jite_congr (fun _ => ?_) (fun _ => ?_)))
  · refine (jev_blk 2 (pc' := 8) (L' := ([some (.ref 79), d1], [])) (S' := [.int 47, .ref 79]) (h' := (jXt cx (jY f g n b l t), z)) rfl).trans ?_
    exact jev_callb (nx := 9) (rest := []) rfl
  · rfl
set_option maxRecDepth 20000 in
theorem E_m_product_10 {D : Nat}  {d1 : Option Value} {cx : jCX} {f : Nat → Int32} {g : Nat → Nat → Int32} {n : Nat → Nat → Int64} {b : Nat → Nat → Int32} {l : Nat → Int64} {t : List jE} {z : Nat × Nat × Nat × (Nat → Int32)}  : K_m_product_10 D d1 cx f g n b l t z = jbO (K_m_knot D cx f g n b l t z) (jk D 171 15 ([some (.ref 79), some (.int (f 8))], []) []) := by
  refine (jev_blk 4 (pc' := 14) (L' := ([some (.ref 79), some (.int (f 8))], [])) (S' := [.ref 79]) (h' := (jXt cx (jY f g n b l t), z)) rfl).trans ?_
  exact jev_callb (nx := 15) (rest := []) rfl
set_option maxRecDepth 20000 in
theorem E_m_product_9 {D : Nat}  {d1 : Option Value} {u0 : Int32} {cx : jCX} {f : Nat → Int32} {g : Nat → Nat → Int32} {n : Nat → Nat → Int64} {b : Nat → Nat → Int32} {l : Nat → Int64} {t : List jE} {z : Nat × Nat × Nat × (Nat → Int32)}  : jev D 171 9 ([some (.ref 79), d1], []) [.int u0] (jXt cx (jY f g n b l t), z) = if u0 = 0 then (some (.inl (none), (jXt cx (jY f g n b l t), z))) else (K_m_product_10 D d1 cx f g n b l t z) := by
  refine (jev_blk 1 (pc' := if u0 = 0 then 24 else 10) (L' := ([some (.ref 79), d1], [])) (S' := []) (h' := (jXt cx (jY f g n b l t), z)) rfl).trans (jev_ite.trans (jite_congr (fun _ => ?_) (fun _ => ?_)))
  · exact jev_fin rfl
  · rfl
set_option maxRecDepth 20000 in
theorem E_m_product_15 {D : Nat}  {x1 : Int32} {cx : jCX} {f : Nat → Int32} {g : Nat → Nat → Int32} {n : Nat → Nat → Int64} {b : Nat → Nat → Int32} {l : Nat → Int64} {t : List jE} {z : Nat × Nat × Nat × (Nat → Int32)}  : jev D 171 15 ([some (.ref 79), some (.int x1)], []) [] (jXt cx (jY f g n b l t), z) = jbO (K_m_goOn D cx f g n b l t z) (jk D 171 17 ([some (.ref 79), some (.int x1)], []) []) := by
  refine (jev_blk 1 (pc' := 16) (L' := ([some (.ref 79), some (.int x1)], [])) (S' := [.ref 79]) (h' := (jXt cx (jY f g n b l t), z)) rfl).trans ?_
  exact jev_callb (nx := 17) (rest := []) rfl
set_option maxRecDepth 20000 in
theorem E_m_product_17 {D : Nat}  {x1 : Int32} {cx : jCX} {f : Nat → Int32} {g : Nat → Nat → Int32} {n : Nat → Nat → Int64} {b : Nat → Nat → Int32} {l : Nat → Int64} {t : List jE} {z : Nat × Nat × Nat × (Nat → Int32)}  : jev (D + 1) 171 17 ([some (.ref 79), some (.int x1)], []) [] (jXt cx (jY f g n b l t), z) = jbO (K_m_primary D cx f g n b l t z) (jk (D + 1) 171 19 ([some (.ref 79), some (.int x1)], []) []) := by
  refine (jev_blk 1 (pc' := 18) (L' := ([some (.ref 79), some (.int x1)], [])) (S' := [.ref 79]) (h' := (jXt cx (jY f g n b l t), z)) rfl).trans ?_
  exact jev_callb (nx := 19) (rest := []) rfl
set_option maxRecDepth 20000 in
theorem E_m_product_19 {D : Nat}  {x1 : Int32} {cx : jCX} {f : Nat → Int32} {g : Nat → Nat → Int32} {n : Nat → Nat → Int64} {b : Nat → Nat → Int32} {l : Nat → Int64} {t : List jE} {z : Nat × Nat × Nat × (Nat → Int32)}  : jev D 171 19 ([some (.ref 79), some (.int x1)], []) [] (jXt cx (jY f g n b l t), z) = jbO (K_m_puts D 2 x1 cx f g n b l t z) (jk D 171 23 ([some (.ref 79), some (.int x1)], []) []) := by
  refine (jev_blk 3 (pc' := 22) (L' := ([some (.ref 79), some (.int x1)], [])) (S' := [.int x1, .int 2, .ref 79]) (h' := (jXt cx (jY f g n b l t), z)) rfl).trans ?_
  exact jev_callb (nx := 23) (rest := []) rfl
set_option maxRecDepth 20000 in
theorem E_m_product_23 {D : Nat}  {d1 : Option Value} {cx : jCX} {f : Nat → Int32} {g : Nat → Nat → Int32} {n : Nat → Nat → Int64} {b : Nat → Nat → Int32} {l : Nat → Int64} {t : List jE} {z : Nat × Nat × Nat × (Nat → Int32)}  : jev D 171 23 ([some (.ref 79), d1], []) [] (jXt cx (jY f g n b l t), z) = K_m_product_2 D d1 cx f g n b l t z := by
  exact jev_blk 1 rfl
set_option maxRecDepth 20000 in
theorem E_m_primary {D : Nat}   {cx : jCX} {f : Nat → Int32} {g : Nat → Nat → Int32} {n : Nat → Nat → Int64} {b : Nat → Nat → Int32} {l : Nat → Int64} {t : List jE} {z : Nat × Nat × Nat × (Nat → Int32)}  : K_m_primary D cx f g n b l t z = if (f 9) = 0 then (jbO (K_m_isSign D 40 cx f g n b l t z) (jk D 172 7 ([some (.ref 79), none], []) [])) else (some (.inl (none), (jXt cx (jY f g n b l t), z))) := by
  refine (jev_blk 3 (pc' := if (f 9) = 0 then 4 else 3) (L' := ([some (.ref 79), none], [])) (S' := []) (h' := (jXt cx (jY f g n b l t), z)) rfl).trans (jev_ite.trans (jite_congr (fun _ => ?_) (fun _ => ?_)))
  · refine (jev_blk 2 (pc' := 6) (L' := ([some (.ref 79), none], [])) (S' := [.int 40, .ref 79]) (h' := (jXt cx (jY f g n b l t), z)) rfl).trans ?_
    exact jev_callb (nx := 7) (rest := []) rfl
  · exact jev_fin rfl
set_option maxRecDepth 20000 in
theorem E_m_primary_7 {D : Nat}  {d1 : Option Value} {u0 : Int32} {cx : jCX} {f : Nat → Int32} {g : Nat → Nat → Int32} {n : Nat → Nat → Int64} {b : Nat → Nat → Int32} {l : Nat → Int64} {t : List jE} {z : Nat × Nat × Nat × (Nat → Int32)}  : jev D 172 7 ([some (.ref 79), d1], []) [.int u0] (jXt cx (jY f g n b l t), z) = if u0 = 0 then (if (f 7) = 2 then (K_m_primary_59 D d1 1 cx f g n b l t z) else (K_m_primary_59 D d1 0 cx f g n b l t z)) else (if (f 13) = 8 then (jbO (K_m_wrong D 2 cx f g n b l t z) (jk D 172 15 ([some (.ref 79), d1], []) [])) else (K_m_primary_15 D d1 cx f g n b l t z)) := by
  refine (jev_blk 1 (pc' := if u0 = 0 then 52 else 8) (L' := ([some (.ref 79), d1], [])) (S' := []) (h' := (jXt cx (jY f g n b l t), z)) rfl).trans (jev_ite.trans (jite_congr (fun _ => ?_) (fun _ => ?_)))
  · refine (jev_blk 4 (pc' := if (f 7) = 2 then 56 else 58) (L' := ([some (.ref 79), d1], [])) (S' := []) (h' := (jXt cx (jY f g n b l t), z)) rfl).trans (jev_ite.trans (jite_congr (fun _ => ?_) (fun _ => ?_)))
    · exact jev_blk 2 rfl
    · exact jev_blk 1 rfl
  · refine (jev_blk 4 (pc' := if (f 13) = 8 then 12 else 15) (L' := ([some (.ref 79), d1], [])) (S' := []) (h' := (jXt cx (jY f g n b l t), z)) rfl).trans (jev_ite.trans (jite_congr (fun _ => ?_) (fun _ => ?_)))
    · refine (jev_blk 2 (pc' := 14) (L' := ([some (.ref 79), d1], [])) (S' := [.int 2, .ref 79]) (h' := (jXt cx (jY f g n b l t), z)) rfl).trans ?_
      exact jev_callb (nx := 15) (rest := []) rfl
    · rfl
set_option maxRecDepth 20000 in
theorem E_m_primary_59 {D : Nat}  {d1 : Option Value} {u0 : Int32} {cx : jCX} {f : Nat → Int32} {g : Nat → Nat → Int32} {n : Nat → Nat → Int64} {b : Nat → Nat → Int32} {l : Nat → Int64} {t : List jE} {z : Nat × Nat × Nat × (Nat → Int32)}  : K_m_primary_59 D d1 u0 cx f g n b l t z = if u0 = 0 then (K_m_primary_70 D u0 cx f g n b l t z) else (if 9999 < (f 8) then (jbO (K_m_wrong D 2 cx f g n b l t z) (jk D 172 69 ([some (.ref 79), some (.int u0)], []) [])) else (K_m_primary_70 D u0 cx f g n b l t z)) := by
  refine (jev_blk 3 (pc' := if u0 = 0 then 70 else 62) (L' := ([some (.ref 79), some (.int u0)], [])) (S' := []) (h' := (jXt cx (jY f g n b l t), z)) rfl).trans (jev_ite.trans (jite_congr (fun _ => ?_) (fun _ => ?_)))
  · rfl
  · refine (jev_blk 4 (pc' := if 9999 < (f 8) then 66 else 70) (L' := ([some (.ref 79), some (.int u0)], [])) (S' := []) (h' := (jXt cx (jY f g n b l t), z)) rfl).trans (jev_ite.trans (jite_congr (fun _ => ?_) (fun _ => ?_)))
    · refine (jev_blk 2 (pc' := 68) (L' := ([some (.ref 79), some (.int u0)], [])) (S' := [.int 2, .ref 79]) (h' := (jXt cx (jY f g n b l t), z)) rfl).trans ?_
      exact jev_callb (nx := 69) (rest := []) rfl
    · rfl
set_option maxRecDepth 20000 in
theorem E_m_primary_15 {D : Nat}  {d1 : Option Value} {cx : jCX} {f : Nat → Int32} {g : Nat → Nat → Int32} {n : Nat → Nat → Int64} {b : Nat → Nat → Int32} {l : Nat → Int64} {t : List jE} {z : Nat × Nat × Nat × (Nat → Int32)}  : K_m_primary_15 D d1 cx f g n b l t z = if (f 9) = 0 then (jbO (K_m_token D cx (jup f 13 (((f 13) + 1))) g n b l t z) (jk D 172 27 ([some (.ref 79), d1], []) [])) else (some (.inl (none), (jXt cx (jY f g n b l t), z))) := by
  refine (jev_blk 3 (pc' := if (f 9) = 0 then 19 else 18) (L' := ([some (.ref 79), d1], [])) (S' := []) (h' := (jXt cx (jY f g n b l t), z)) rfl).trans (jev_ite.trans (jite_congr (fun _ => ?_) (fun _ => ?_)))
  · refine (jev_blk 7 (pc' := 26) (L' := ([some (.ref 79), d1], [])) (S' := [.ref 79]) (h' := (jXt cx (jY (jup f 13 (((f 13) + 1))) g n b l t), z)) rfl).trans ?_
    exact jev_callb (nx := 27) (rest := []) rfl
  · exact jev_fin rfl
set_option maxRecDepth 20000 in
theorem E_m_primary_70 {D : Nat}  {x1 : Int32} {cx : jCX} {f : Nat → Int32} {g : Nat → Nat → Int32} {n : Nat → Nat → Int64} {b : Nat → Nat → Int32} {l : Nat → Int64} {t : List jE} {z : Nat × Nat × Nat × (Nat → Int32)}  : K_m_primary_70 D x1 cx f g n b l t z = if x1 = 0 then (if (f 7) = 0 then (if (f 8) < 16 then (if (f 8) = 6 then (K_m_primary_86 D x1 cx f g n b l t z) else (K_m_primary_83 D x1 cx f g n b l t z)) else (K_m_primary_86 D x1 cx f g n b l t z)) else (K_m_primary_83 D x1 cx f g n b l t z)) else (K_m_primary_86 D x1 cx f g n b l t z) := by
  refine (jev_blk 2 (pc' := if x1 = 0 then 72 else 86) (L' := ([some (.ref 79), some (.int x1)], [])) (S' := []) (h' := (jXt cx (jY f g n b l t), z)) rfl).trans (jev_ite.trans (jite_congr (fun _ => ?_) (fun _ => ?_)))
  · refine (jev_blk 3 (pc' := if (f 7) = 0 then 75 else 83) (L' := ([some (.ref 79), some (.int x1)], [])) (S' := []) (h' := (jXt cx (jY f g n b l t), z)) rfl).trans (jev_ite.trans (jite_congr (fun _ => ?_) (fun _ => ?_)))
    · refine (jev_blk 4 (pc' := if (f 8) < 16 then 79 else 86) (L' := ([some (.ref 79), some (.int x1)], [])) (S' := []) (h' := (jXt cx (jY f g n b l t), z)) rfl).trans (jev_ite.trans (jite_congr (fun _ => ?_) (fun _ => ?_)))
      · refine (jev_blk 4 (pc' := if (f 8) = 6 then 86 else 83) (L' := ([some (.ref 79), some (.int x1)], [])) (S' := []) (h' := (jXt cx (jY f g n b l t), z)) rfl).trans (jev_ite.trans (jite_congr (fun _ => ?_) (fun _ => ?_)))
        · rfl
        · rfl
      · rfl
    · rfl
  · rfl
set_option maxRecDepth 20000 in
theorem E_m_primary_86 {D : Nat}  {x1 : Int32} {cx : jCX} {f : Nat → Int32} {g : Nat → Nat → Int32} {n : Nat → Nat → Int64} {b : Nat → Nat → Int32} {l : Nat → Int64} {t : List jE} {z : Nat × Nat × Nat × (Nat → Int32)}  : K_m_primary_86 D x1 cx f g n b l t z = jbO (K_m_knot D cx f g n b l t z) (jk D 172 88 ([some (.ref 79), some (.int x1)], []) []) := by
  refine (jev_blk 1 (pc' := 87) (L' := ([some (.ref 79), some (.int x1)], [])) (S' := [.ref 79]) (h' := (jXt cx (jY f g n b l t), z)) rfl).trans ?_
  exact jev_callb (nx := 88) (rest := []) rfl
set_option maxRecDepth 20000 in
theorem E_m_primary_83 {D : Nat}  {x1 : Int32} {cx : jCX} {f : Nat → Int32} {g : Nat → Nat → Int32} {n : Nat → Nat → Int64} {b : Nat → Nat → Int32} {l : Nat → Int64} {t : List jE} {z : Nat × Nat × Nat × (Nat → Int32)}  : K_m_primary_83 D x1 cx f g n b l t z = jbO (K_m_wrong D 1 cx f g n b l t z) (jk D 172 86 ([some (.ref 79), some (.int x1)], []) []) := by
  refine (jev_blk 2 (pc' := 85) (L' := ([some (.ref 79), some (.int x1)], [])) (S' := [.int 1, .ref 79]) (h' := (jXt cx (jY f g n b l t), z)) rfl).trans ?_
  exact jev_callb (nx := 86) (rest := []) rfl
theorem F_m_primary_15 {D : Nat}  {d1 : Option Value} {cx : jCX} {f : Nat → Int32} {g : Nat → Nat → Int32} {n : Nat → Nat → Int64} {b : Nat → Nat → Int32} {l : Nat → Int64} {t : List jE} {z : Nat × Nat × Nat × (Nat → Int32)} : jev D 172 15 ([some (.ref 79), d1], []) [] (jXt cx (jY f g n b l t), z) = K_m_primary_15 D d1 cx f g n b l t z := rfl
set_option maxRecDepth 20000 in
theorem E_m_primary_69 {D : Nat}  {x1 : Int32} {cx : jCX} {f : Nat → Int32} {g : Nat → Nat → Int32} {n : Nat → Nat → Int64} {b : Nat → Nat → Int32} {l : Nat → Int64} {t : List jE} {z : Nat × Nat × Nat × (Nat → Int32)}  : jev D 172 69 ([some (.ref 79), some (.int x1)], []) [] (jXt cx (jY f g n b l t), z) = K_m_primary_86 D x1 cx f g n b l t z := by
  exact jev_blk 1 rfl
set_option maxRecDepth 20000 in
theorem E_m_primary_27 {D : Nat}  {d1 : Option Value} {cx : jCX} {f : Nat → Int32} {g : Nat → Nat → Int32} {n : Nat → Nat → Int64} {b : Nat → Nat → Int32} {l : Nat → Int64} {t : List jE} {z : Nat × Nat × Nat × (Nat → Int32)}  : jev (D + 1) 172 27 ([some (.ref 79), d1], []) [] (jXt cx (jY f g n b l t), z) = jbO (K_m_expression D cx f g n b l t z) (jk (D + 1) 172 29 ([some (.ref 79), d1], []) []) := by
  refine (jev_blk 1 (pc' := 28) (L' := ([some (.ref 79), d1], [])) (S' := [.ref 79]) (h' := (jXt cx (jY f g n b l t), z)) rfl).trans ?_
  exact jev_callb (nx := 29) (rest := []) rfl
set_option maxRecDepth 20000 in
theorem E_m_primary_88 {D : Nat}  {x1 : Int32} {cx : jCX} {f : Nat → Int32} {g : Nat → Nat → Int32} {n : Nat → Nat → Int64} {b : Nat → Nat → Int32} {l : Nat → Int64} {t : List jE} {z : Nat × Nat × Nat × (Nat → Int32)}  : jev D 172 88 ([some (.ref 79), some (.int x1)], []) [] (jXt cx (jY f g n b l t), z) = if x1 = 0 then (K_m_primary_94 D x1 1 cx f g n b l t z) else (K_m_primary_94 D x1 0 cx f g n b l t z) := by
  refine (jev_blk 3 (pc' := if x1 = 0 then 93 else 91) (L' := ([some (.ref 79), some (.int x1)], [])) (S' := [.ref 79]) (h' := (jXt cx (jY f g n b l t), z)) rfl).trans (jev_ite.trans (jite_congr (fun _ => ?_) (fun _ => ?_)))
  · exact jev_blk 1 rfl
  · exact jev_blk 2 rfl
set_option maxRecDepth 20000 in
theorem E_m_primary_94 {D : Nat}  {x1 : Int32} {u0 : Int32} {cx : jCX} {f : Nat → Int32} {g : Nat → Nat → Int32} {n : Nat → Nat → Int64} {b : Nat → Nat → Int32} {l : Nat → Int64} {t : List jE} {z : Nat × Nat × Nat × (Nat → Int32)}  : K_m_primary_94 D x1 u0 cx f g n b l t z = if x1 = 0 then (if (f 8) = 6 then (K_m_primary_109 D (some (.int x1)) 2 u0 cx f g n b l t z) else (K_m_primary_109 D (some (.int x1)) ((f 8) - 16) u0 cx f g n b l t z)) else (K_m_primary_109 D (some (.int x1)) (f 8) u0 cx f g n b l t z) := by
  refine (jev_blk 2 (pc' := if x1 = 0 then 99 else 96) (L' := ([some (.ref 79), some (.int x1)], [])) (S' := [.int u0, .ref 79]) (h' := (jXt cx (jY f g n b l t), z)) rfl).trans (jev_ite.trans (jite_congr (fun _ => ?_) (fun _ => ?_)))
  · refine (jev_blk 4 (pc' := if (f 8) = 6 then 103 else 105) (L' := ([some (.ref 79), some (.int x1)], [])) (S' := [.int u0, .ref 79]) (h' := (jXt cx (jY f g n b l t), z)) rfl).trans (jev_ite.trans (jite_congr (fun _ => ?_) (fun _ => ?_)))
    · exact jev_blk 2 rfl
    · exact jev_blk 4 rfl
  · exact jev_blk 3 rfl
set_option maxRecDepth 20000 in
theorem E_m_primary_109 {D : Nat}  {d1 : Option Value} {u0 : Int32} {u1 : Int32} {cx : jCX} {f : Nat → Int32} {g : Nat → Nat → Int32} {n : Nat → Nat → Int64} {b : Nat → Nat → Int32} {l : Nat → Int64} {t : List jE} {z : Nat × Nat × Nat × (Nat → Int32)}  : K_m_primary_109 D d1 u0 u1 cx f g n b l t z = jbO (K_m_puts D u1 u0 cx f g n b l t z) (jk D 172 110 ([some (.ref 79), d1], []) []) := by
  exact jev_callb (nx := 110) (rest := []) rfl
theorem F_m_primary_86 {D : Nat}  {x1 : Int32} {cx : jCX} {f : Nat → Int32} {g : Nat → Nat → Int32} {n : Nat → Nat → Int64} {b : Nat → Nat → Int32} {l : Nat → Int64} {t : List jE} {z : Nat × Nat × Nat × (Nat → Int32)} : jev D 172 86 ([some (.ref 79), some (.int x1)], []) [] (jXt cx (jY f g n b l t), z) = K_m_primary_86 D x1 cx f g n b l t z := rfl
set_option maxRecDepth 20000 in
theorem E_m_primary_29 {D : Nat}  {d1 : Option Value} {cx : jCX} {f : Nat → Int32} {g : Nat → Nat → Int32} {n : Nat → Nat → Int64} {b : Nat → Nat → Int32} {l : Nat → Int64} {t : List jE} {z : Nat × Nat × Nat × (Nat → Int32)}  : jev D 172 29 ([some (.ref 79), d1], []) [] (jXt cx (jY f g n b l t), z) = if (f 9) = 0 then (jbO (K_m_isSign D 41 cx f g n b l t z) (jk D 172 35 ([some (.ref 79), d1], []) [])) else (K_m_primary_39 D d1 cx f g n b l t z) := by
  refine (jev_blk 3 (pc' := if (f 9) = 0 then 32 else 39) (L' := ([some (.ref 79), d1], [])) (S' := []) (h' := (jXt cx (jY f g n b l t), z)) rfl).trans (jev_ite.trans (jite_congr (fun _ => ?_) (fun _ => ?_)))
  · refine (jev_blk 2 (pc' := 34) (L' := ([some (.ref 79), d1], [])) (S' := [.int 41, .ref 79]) (h' := (jXt cx (jY f g n b l t), z)) rfl).trans ?_
    exact jev_callb (nx := 35) (rest := []) rfl
  · rfl
set_option maxRecDepth 20000 in
theorem E_m_primary_39 {D : Nat}  {d1 : Option Value} {cx : jCX} {f : Nat → Int32} {g : Nat → Nat → Int32} {n : Nat → Nat → Int64} {b : Nat → Nat → Int32} {l : Nat → Int64} {t : List jE} {z : Nat × Nat × Nat × (Nat → Int32)}  : K_m_primary_39 D d1 cx f g n b l t z = if (f 9) = 0 then (jbO (K_m_token D cx (jup f 13 (((f 13) - 1))) g n b l t z) (jk D 172 51 ([some (.ref 79), d1], []) [])) else (some (.inl (none), (jXt cx (jY f g n b l t), z))) := by
  refine (jev_blk 3 (pc' := if (f 9) = 0 then 43 else 42) (L' := ([some (.ref 79), d1], [])) (S' := []) (h' := (jXt cx (jY f g n b l t), z)) rfl).trans (jev_ite.trans (jite_congr (fun _ => ?_) (fun _ => ?_)))
  · refine (jev_blk 7 (pc' := 50) (L' := ([some (.ref 79), d1], [])) (S' := [.ref 79]) (h' := (jXt cx (jY (jup f 13 (((f 13) - 1))) g n b l t), z)) rfl).trans ?_
    exact jev_callb (nx := 51) (rest := []) rfl
  · exact jev_fin rfl
set_option maxRecDepth 20000 in
theorem E_m_primary_110 {D : Nat}  {d1 : Option Value} {cx : jCX} {f : Nat → Int32} {g : Nat → Nat → Int32} {n : Nat → Nat → Int64} {b : Nat → Nat → Int32} {l : Nat → Int64} {t : List jE} {z : Nat × Nat × Nat × (Nat → Int32)}  : jev D 172 110 ([some (.ref 79), d1], []) [] (jXt cx (jY f g n b l t), z) = jbO (K_m_goOn D cx f g n b l t z) (jk D 172 112 ([some (.ref 79), d1], []) []) := by
  refine (jev_blk 1 (pc' := 111) (L' := ([some (.ref 79), d1], [])) (S' := [.ref 79]) (h' := (jXt cx (jY f g n b l t), z)) rfl).trans ?_
  exact jev_callb (nx := 112) (rest := []) rfl
set_option maxRecDepth 20000 in
theorem E_m_primary_35 {D : Nat}  {d1 : Option Value} {u0 : Int32} {cx : jCX} {f : Nat → Int32} {g : Nat → Nat → Int32} {n : Nat → Nat → Int64} {b : Nat → Nat → Int32} {l : Nat → Int64} {t : List jE} {z : Nat × Nat × Nat × (Nat → Int32)}  : jev D 172 35 ([some (.ref 79), d1], []) [.int u0] (jXt cx (jY f g n b l t), z) = if u0 = 0 then (jbO (K_m_wrong D 1 cx f g n b l t z) (jk D 172 39 ([some (.ref 79), d1], []) [])) else (K_m_primary_39 D d1 cx f g n b l t z) := by
  refine (jev_blk 1 (pc' := if u0 = 0 then 36 else 39) (L' := ([some (.ref 79), d1], [])) (S' := []) (h' := (jXt cx (jY f g n b l t), z)) rfl).trans (jev_ite.trans (jite_congr (fun _ => ?_) (fun _ => ?_)))
  · refine (jev_blk 2 (pc' := 38) (L' := ([some (.ref 79), d1], [])) (S' := [.int 1, .ref 79]) (h' := (jXt cx (jY f g n b l t), z)) rfl).trans ?_
    exact jev_callb (nx := 39) (rest := []) rfl
  · rfl
set_option maxRecDepth 20000 in
theorem E_m_primary_51 {D : Nat}  {d1 : Option Value} {cx : jCX} {f : Nat → Int32} {g : Nat → Nat → Int32} {n : Nat → Nat → Int64} {b : Nat → Nat → Int32} {l : Nat → Int64} {t : List jE} {z : Nat × Nat × Nat × (Nat → Int32)}  : jev D 172 51 ([some (.ref 79), d1], []) [] (jXt cx (jY f g n b l t), z) = some (.inl (none), (jXt cx (jY f g n b l t), z)) := by
  exact jev_fin rfl
set_option maxRecDepth 20000 in
theorem E_m_primary_112 {D : Nat}  {d1 : Option Value} {cx : jCX} {f : Nat → Int32} {g : Nat → Nat → Int32} {n : Nat → Nat → Int64} {b : Nat → Nat → Int32} {l : Nat → Int64} {t : List jE} {z : Nat × Nat × Nat × (Nat → Int32)}  : jev D 172 112 ([some (.ref 79), d1], []) [] (jXt cx (jY f g n b l t), z) = some (.inl (none), (jXt cx (jY f g n b l t), z)) := by
  exact jev_fin rfl
theorem F_m_primary_39 {D : Nat}  {d1 : Option Value} {cx : jCX} {f : Nat → Int32} {g : Nat → Nat → Int32} {n : Nat → Nat → Int64} {b : Nat → Nat → Int32} {l : Nat → Int64} {t : List jE} {z : Nat × Nat × Nat × (Nat → Int32)} : jev D 172 39 ([some (.ref 79), d1], []) [] (jXt cx (jY f g n b l t), z) = K_m_primary_39 D d1 cx f g n b l t z := rfl
set_option maxRecDepth 20000 in
theorem E_m_half_number {D : Nat}   {cx : jCX} {f : Nat → Int32} {g : Nat → Nat → Int32} {n : Nat → Nat → Int64} {b : Nat → Nat → Int32} {l : Nat → Int64} {t : List jE} {z : Nat × Nat × Nat × (Nat → Int32)}  : K_m_half_number D cx f g n b l t z = K_m_half_number_7 D ((Int32.ofNat 22) / 2) 0 cx f g n b l t z := by
  exact jev_blk 7 rfl
set_option maxRecDepth 20000 in
theorem L_m_half_number_7 {D : Nat}  {x1 : Int32} {x2 : Int32} {cx : jCX} {f : Nat → Int32} {g : Nat → Nat → Int32} {n : Nat → Nat → Int64} {b : Nat → Nat → Int32} {l : Nat → Int64} {t : List jE} {z : Nat × Nat × Nat × (Nat → Int32)}  : K_m_half_number_7 D x1 x2 cx f g n b l t z = if x2 < x1 then (if jout (x1 + x2) 22 then none else (if jout x2 22 then none else (K_m_half_number_7 D x1 (x2 + 1) cx f (jup g 1 ((jup (g 1) (x2.toNatClampNeg) (g 1 (x1 + x2).toNatClampNeg)))) n b l t z))) else (some (.inl (none), (jXt cx (jY f g n b l t), z))) := by
  refine (jev_blk 3 (pc' := if x2 < x1 then 10 else 20) (L' := ([some (.ref 81), some (.int x1), some (.int x2)], [])) (S' := []) (h' := (jXt cx (jY f g n b l t), z)) rfl).trans (jev_ite.trans (jite_congr (fun _ => ?_) (fun _ => ?_)))
  · refine (jev_blk 6 (pc' := 16) (L' := ([some (.ref 81), some (.int x1), some (.int x2)], [])) (S' := [.int (x1 + x2), .ref 81, .int x2, .ref 81]) (h' := (jXt cx (jY f g n b l t), z)) rfl).trans ?_
    refine (jev_grd (q := jout (x1 + x2) 22) (pc' := 17) (L' := ([some (.ref 81), some (.int x1), some (.int x2)], [])) (S' := [.int (g 1 (x1 + x2).toNatClampNeg), .int x2, .ref 81]) (h' := (jXt cx (jY f g n b l t), z)) rfl).trans (jite_congr (fun _ => rfl) (fun _ => ?_))
    refine (jev_grd (q := jout x2 22) (pc' := 18) (L' := ([some (.ref 81), some (.int x1), some (.int x2)], [])) (S' := []) (h' := (jXt cx (jY f (jup g 1 ((jup (g 1) (x2.toNatClampNeg) (g 1 (x1 + x2).toNatClampNeg)))) n b l t), z)) rfl).trans (jite_congr (fun _ => rfl) (fun _ => ?_))
    exact jev_blk 2 rfl
  · exact jev_fin rfl
set_option maxRecDepth 20000 in
theorem E_m_half_cropAs {D : Nat}   {cx : jCX} {f : Nat → Int32} {g : Nat → Nat → Int32} {n : Nat → Nat → Int64} {b : Nat → Nat → Int32} {l : Nat → Int64} {t : List jE} {z : Nat × Nat × Nat × (Nat → Int32)}  : K_m_half_cropAs D cx f g n b l t z = K_m_half_cropAs_7 D ((Int32.ofNat 60) / 2) 0 cx f g n b l t z := by
  exact jev_blk 7 rfl
set_option maxRecDepth 20000 in
theorem L_m_half_cropAs_7 {D : Nat}  {x1 : Int32} {x2 : Int32} {cx : jCX} {f : Nat → Int32} {g : Nat → Nat → Int32} {n : Nat → Nat → Int64} {b : Nat → Nat → Int32} {l : Nat → Int64} {t : List jE} {z : Nat × Nat × Nat × (Nat → Int32)}  : K_m_half_cropAs_7 D x1 x2 cx f g n b l t z = if x2 < x1 then (if jout (x1 + x2) 60 then none else (if jout x2 60 then none else (K_m_half_cropAs_7 D x1 (x2 + 1) cx f (jup g 2 ((jup (g 2) (x2.toNatClampNeg) (g 2 (x1 + x2).toNatClampNeg)))) n b l t z))) else (some (.inl (none), (jXt cx (jY f g n b l t), z))) := by
  refine (jev_blk 3 (pc' := if x2 < x1 then 10 else 20) (L' := ([some (.ref 82), some (.int x1), some (.int x2)], [])) (S' := []) (h' := (jXt cx (jY f g n b l t), z)) rfl).trans (jev_ite.trans (jite_congr (fun _ => ?_) (fun _ => ?_)))
  · refine (jev_blk 6 (pc' := 16) (L' := ([some (.ref 82), some (.int x1), some (.int x2)], [])) (S' := [.int (x1 + x2), .ref 82, .int x2, .ref 82]) (h' := (jXt cx (jY f g n b l t), z)) rfl).trans ?_
    refine (jev_grd (q := jout (x1 + x2) 60) (pc' := 17) (L' := ([some (.ref 82), some (.int x1), some (.int x2)], [])) (S' := [.int (g 2 (x1 + x2).toNatClampNeg), .int x2, .ref 82]) (h' := (jXt cx (jY f g n b l t), z)) rfl).trans (jite_congr (fun _ => rfl) (fun _ => ?_))
    refine (jev_grd (q := jout x2 60) (pc' := 18) (L' := ([some (.ref 82), some (.int x1), some (.int x2)], [])) (S' := []) (h' := (jXt cx (jY f (jup g 2 ((jup (g 2) (x2.toNatClampNeg) (g 2 (x1 + x2).toNatClampNeg)))) n b l t), z)) rfl).trans (jite_congr (fun _ => rfl) (fun _ => ?_))
    exact jev_blk 2 rfl
  · exact jev_fin rfl
set_option maxRecDepth 20000 in
theorem E_m_half_scareName {D : Nat}   {cx : jCX} {f : Nat → Int32} {g : Nat → Nat → Int32} {n : Nat → Nat → Int64} {b : Nat → Nat → Int32} {l : Nat → Int64} {t : List jE} {z : Nat × Nat × Nat × (Nat → Int32)}  : K_m_half_scareName D cx f g n b l t z = K_m_half_scareName_7 D ((Int32.ofNat 12) / 2) 0 cx f g n b l t z := by
  exact jev_blk 7 rfl
set_option maxRecDepth 20000 in
theorem L_m_half_scareName_7 {D : Nat}  {x1 : Int32} {x2 : Int32} {cx : jCX} {f : Nat → Int32} {g : Nat → Nat → Int32} {n : Nat → Nat → Int64} {b : Nat → Nat → Int32} {l : Nat → Int64} {t : List jE} {z : Nat × Nat × Nat × (Nat → Int32)}  : K_m_half_scareName_7 D x1 x2 cx f g n b l t z = if x2 < x1 then (if jout (x1 + x2) 12 then none else (if jout x2 12 then none else (K_m_half_scareName_7 D x1 (x2 + 1) cx f (jup g 3 ((jup (g 3) (x2.toNatClampNeg) (g 3 (x1 + x2).toNatClampNeg)))) n b l t z))) else (some (.inl (none), (jXt cx (jY f g n b l t), z))) := by
  refine (jev_blk 3 (pc' := if x2 < x1 then 10 else 20) (L' := ([some (.ref 83), some (.int x1), some (.int x2)], [])) (S' := []) (h' := (jXt cx (jY f g n b l t), z)) rfl).trans (jev_ite.trans (jite_congr (fun _ => ?_) (fun _ => ?_)))
  · refine (jev_blk 6 (pc' := 16) (L' := ([some (.ref 83), some (.int x1), some (.int x2)], [])) (S' := [.int (x1 + x2), .ref 83, .int x2, .ref 83]) (h' := (jXt cx (jY f g n b l t), z)) rfl).trans ?_
    refine (jev_grd (q := jout (x1 + x2) 12) (pc' := 17) (L' := ([some (.ref 83), some (.int x1), some (.int x2)], [])) (S' := [.int (g 3 (x1 + x2).toNatClampNeg), .int x2, .ref 83]) (h' := (jXt cx (jY f g n b l t), z)) rfl).trans (jite_congr (fun _ => rfl) (fun _ => ?_))
    refine (jev_grd (q := jout x2 12) (pc' := 18) (L' := ([some (.ref 83), some (.int x1), some (.int x2)], [])) (S' := []) (h' := (jXt cx (jY f (jup g 3 ((jup (g 3) (x2.toNatClampNeg) (g 3 (x1 + x2).toNatClampNeg)))) n b l t), z)) rfl).trans (jite_congr (fun _ => rfl) (fun _ => ?_))
    exact jev_blk 2 rfl
  · exact jev_fin rfl
set_option maxRecDepth 20000 in
theorem E_m_half_scareAt {D : Nat}   {cx : jCX} {f : Nat → Int32} {g : Nat → Nat → Int32} {n : Nat → Nat → Int64} {b : Nat → Nat → Int32} {l : Nat → Int64} {t : List jE} {z : Nat × Nat × Nat × (Nat → Int32)}  : K_m_half_scareAt D cx f g n b l t z = K_m_half_scareAt_7 D ((Int32.ofNat 12) / 2) 0 cx f g n b l t z := by
  exact jev_blk 7 rfl
set_option maxRecDepth 20000 in
theorem L_m_half_scareAt_7 {D : Nat}  {x1 : Int32} {x2 : Int32} {cx : jCX} {f : Nat → Int32} {g : Nat → Nat → Int32} {n : Nat → Nat → Int64} {b : Nat → Nat → Int32} {l : Nat → Int64} {t : List jE} {z : Nat × Nat × Nat × (Nat → Int32)}  : K_m_half_scareAt_7 D x1 x2 cx f g n b l t z = if x2 < x1 then (if jout (x1 + x2) 12 then none else (if jout x2 12 then none else (K_m_half_scareAt_7 D x1 (x2 + 1) cx f (jup g 4 ((jup (g 4) (x2.toNatClampNeg) (g 4 (x1 + x2).toNatClampNeg)))) n b l t z))) else (some (.inl (none), (jXt cx (jY f g n b l t), z))) := by
  refine (jev_blk 3 (pc' := if x2 < x1 then 10 else 20) (L' := ([some (.ref 84), some (.int x1), some (.int x2)], [])) (S' := []) (h' := (jXt cx (jY f g n b l t), z)) rfl).trans (jev_ite.trans (jite_congr (fun _ => ?_) (fun _ => ?_)))
  · refine (jev_blk 6 (pc' := 16) (L' := ([some (.ref 84), some (.int x1), some (.int x2)], [])) (S' := [.int (x1 + x2), .ref 84, .int x2, .ref 84]) (h' := (jXt cx (jY f g n b l t), z)) rfl).trans ?_
    refine (jev_grd (q := jout (x1 + x2) 12) (pc' := 17) (L' := ([some (.ref 84), some (.int x1), some (.int x2)], [])) (S' := [.int (g 4 (x1 + x2).toNatClampNeg), .int x2, .ref 84]) (h' := (jXt cx (jY f g n b l t), z)) rfl).trans (jite_congr (fun _ => rfl) (fun _ => ?_))
    refine (jev_grd (q := jout x2 12) (pc' := 18) (L' := ([some (.ref 84), some (.int x1), some (.int x2)], [])) (S' := []) (h' := (jXt cx (jY f (jup g 4 ((jup (g 4) (x2.toNatClampNeg) (g 4 (x1 + x2).toNatClampNeg)))) n b l t), z)) rfl).trans (jite_congr (fun _ => rfl) (fun _ => ?_))
    exact jev_blk 2 rfl
  · exact jev_fin rfl
set_option maxRecDepth 20000 in
theorem E_m_half_sight {D : Nat}   {cx : jCX} {f : Nat → Int32} {g : Nat → Nat → Int32} {n : Nat → Nat → Int64} {b : Nat → Nat → Int32} {l : Nat → Int64} {t : List jE} {z : Nat × Nat × Nat × (Nat → Int32)}  : K_m_half_sight D cx f g n b l t z = K_m_half_sight_7 D ((Int32.ofNat 12) / 2) 0 cx f g n b l t z := by
  exact jev_blk 7 rfl
set_option maxRecDepth 20000 in
theorem L_m_half_sight_7 {D : Nat}  {x1 : Int32} {x2 : Int32} {cx : jCX} {f : Nat → Int32} {g : Nat → Nat → Int32} {n : Nat → Nat → Int64} {b : Nat → Nat → Int32} {l : Nat → Int64} {t : List jE} {z : Nat × Nat × Nat × (Nat → Int32)}  : K_m_half_sight_7 D x1 x2 cx f g n b l t z = if x2 < x1 then (if jout (x1 + x2) 12 then none else (if jout x2 12 then none else (K_m_half_sight_7 D x1 (x2 + 1) cx f (jup g 5 ((jup (g 5) (x2.toNatClampNeg) (g 5 (x1 + x2).toNatClampNeg)))) n b l t z))) else (some (.inl (none), (jXt cx (jY f g n b l t), z))) := by
  refine (jev_blk 3 (pc' := if x2 < x1 then 10 else 20) (L' := ([some (.ref 85), some (.int x1), some (.int x2)], [])) (S' := []) (h' := (jXt cx (jY f g n b l t), z)) rfl).trans (jev_ite.trans (jite_congr (fun _ => ?_) (fun _ => ?_)))
  · refine (jev_blk 6 (pc' := 16) (L' := ([some (.ref 85), some (.int x1), some (.int x2)], [])) (S' := [.int (x1 + x2), .ref 85, .int x2, .ref 85]) (h' := (jXt cx (jY f g n b l t), z)) rfl).trans ?_
    refine (jev_grd (q := jout (x1 + x2) 12) (pc' := 17) (L' := ([some (.ref 85), some (.int x1), some (.int x2)], [])) (S' := [.int (g 5 (x1 + x2).toNatClampNeg), .int x2, .ref 85]) (h' := (jXt cx (jY f g n b l t), z)) rfl).trans (jite_congr (fun _ => rfl) (fun _ => ?_))
    refine (jev_grd (q := jout x2 12) (pc' := 18) (L' := ([some (.ref 85), some (.int x1), some (.int x2)], [])) (S' := []) (h' := (jXt cx (jY f (jup g 5 ((jup (g 5) (x2.toNatClampNeg) (g 5 (x1 + x2).toNatClampNeg)))) n b l t), z)) rfl).trans (jite_congr (fun _ => rfl) (fun _ => ?_))
    exact jev_blk 2 rfl
  · exact jev_fin rfl
set_option maxRecDepth 20000 in
theorem E_m_half_payAs {D : Nat}   {cx : jCX} {f : Nat → Int32} {g : Nat → Nat → Int32} {n : Nat → Nat → Int64} {b : Nat → Nat → Int32} {l : Nat → Int64} {t : List jE} {z : Nat × Nat × Nat × (Nat → Int32)}  : K_m_half_payAs D cx f g n b l t z = K_m_half_payAs_7 D ((Int32.ofNat 12) / 2) 0 cx f g n b l t z := by
  exact jev_blk 7 rfl
set_option maxRecDepth 20000 in
theorem L_m_half_payAs_7 {D : Nat}  {x1 : Int32} {x2 : Int32} {cx : jCX} {f : Nat → Int32} {g : Nat → Nat → Int32} {n : Nat → Nat → Int64} {b : Nat → Nat → Int32} {l : Nat → Int64} {t : List jE} {z : Nat × Nat × Nat × (Nat → Int32)}  : K_m_half_payAs_7 D x1 x2 cx f g n b l t z = if x2 < x1 then (if jout (x1 + x2) 12 then none else (if jout x2 12 then none else (K_m_half_payAs_7 D x1 (x2 + 1) cx f (jup g 6 ((jup (g 6) (x2.toNatClampNeg) (g 6 (x1 + x2).toNatClampNeg)))) n b l t z))) else (some (.inl (none), (jXt cx (jY f g n b l t), z))) := by
  refine (jev_blk 3 (pc' := if x2 < x1 then 10 else 20) (L' := ([some (.ref 86), some (.int x1), some (.int x2)], [])) (S' := []) (h' := (jXt cx (jY f g n b l t), z)) rfl).trans (jev_ite.trans (jite_congr (fun _ => ?_) (fun _ => ?_)))
  · refine (jev_blk 6 (pc' := 16) (L' := ([some (.ref 86), some (.int x1), some (.int x2)], [])) (S' := [.int (x1 + x2), .ref 86, .int x2, .ref 86]) (h' := (jXt cx (jY f g n b l t), z)) rfl).trans ?_
    refine (jev_grd (q := jout (x1 + x2) 12) (pc' := 17) (L' := ([some (.ref 86), some (.int x1), some (.int x2)], [])) (S' := [.int (g 6 (x1 + x2).toNatClampNeg), .int x2, .ref 86]) (h' := (jXt cx (jY f g n b l t), z)) rfl).trans (jite_congr (fun _ => rfl) (fun _ => ?_))
    refine (jev_grd (q := jout x2 12) (pc' := 18) (L' := ([some (.ref 86), some (.int x1), some (.int x2)], [])) (S' := []) (h' := (jXt cx (jY f (jup g 6 ((jup (g 6) (x2.toNatClampNeg) (g 6 (x1 + x2).toNatClampNeg)))) n b l t), z)) rfl).trans (jite_congr (fun _ => rfl) (fun _ => ?_))
    exact jev_blk 2 rfl
  · exact jev_fin rfl
set_option maxRecDepth 20000 in
theorem E_m_half_gradeAs {D : Nat}   {cx : jCX} {f : Nat → Int32} {g : Nat → Nat → Int32} {n : Nat → Nat → Int64} {b : Nat → Nat → Int32} {l : Nat → Int64} {t : List jE} {z : Nat × Nat × Nat × (Nat → Int32)}  : K_m_half_gradeAs D cx f g n b l t z = K_m_half_gradeAs_7 D ((Int32.ofNat 12) / 2) 0 cx f g n b l t z := by
  exact jev_blk 7 rfl
set_option maxRecDepth 20000 in
theorem L_m_half_gradeAs_7 {D : Nat}  {x1 : Int32} {x2 : Int32} {cx : jCX} {f : Nat → Int32} {g : Nat → Nat → Int32} {n : Nat → Nat → Int64} {b : Nat → Nat → Int32} {l : Nat → Int64} {t : List jE} {z : Nat × Nat × Nat × (Nat → Int32)}  : K_m_half_gradeAs_7 D x1 x2 cx f g n b l t z = if x2 < x1 then (if jout (x1 + x2) 12 then none else (if jout x2 12 then none else (K_m_half_gradeAs_7 D x1 (x2 + 1) cx f (jup g 7 ((jup (g 7) (x2.toNatClampNeg) (g 7 (x1 + x2).toNatClampNeg)))) n b l t z))) else (some (.inl (none), (jXt cx (jY f g n b l t), z))) := by
  refine (jev_blk 3 (pc' := if x2 < x1 then 10 else 20) (L' := ([some (.ref 87), some (.int x1), some (.int x2)], [])) (S' := []) (h' := (jXt cx (jY f g n b l t), z)) rfl).trans (jev_ite.trans (jite_congr (fun _ => ?_) (fun _ => ?_)))
  · refine (jev_blk 6 (pc' := 16) (L' := ([some (.ref 87), some (.int x1), some (.int x2)], [])) (S' := [.int (x1 + x2), .ref 87, .int x2, .ref 87]) (h' := (jXt cx (jY f g n b l t), z)) rfl).trans ?_
    refine (jev_grd (q := jout (x1 + x2) 12) (pc' := 17) (L' := ([some (.ref 87), some (.int x1), some (.int x2)], [])) (S' := [.int (g 7 (x1 + x2).toNatClampNeg), .int x2, .ref 87]) (h' := (jXt cx (jY f g n b l t), z)) rfl).trans (jite_congr (fun _ => rfl) (fun _ => ?_))
    refine (jev_grd (q := jout x2 12) (pc' := 18) (L' := ([some (.ref 87), some (.int x1), some (.int x2)], [])) (S' := []) (h' := (jXt cx (jY f (jup g 7 ((jup (g 7) (x2.toNatClampNeg) (g 7 (x1 + x2).toNatClampNeg)))) n b l t), z)) rfl).trans (jite_congr (fun _ => rfl) (fun _ => ?_))
    exact jev_blk 2 rfl
  · exact jev_fin rfl
set_option maxRecDepth 20000 in
theorem E_m_half_rotaAs {D : Nat}   {cx : jCX} {f : Nat → Int32} {g : Nat → Nat → Int32} {n : Nat → Nat → Int64} {b : Nat → Nat → Int32} {l : Nat → Int64} {t : List jE} {z : Nat × Nat × Nat × (Nat → Int32)}  : K_m_half_rotaAs D cx f g n b l t z = K_m_half_rotaAs_7 D ((Int32.ofNat 12) / 2) 0 cx f g n b l t z := by
  exact jev_blk 7 rfl
set_option maxRecDepth 20000 in
theorem L_m_half_rotaAs_7 {D : Nat}  {x1 : Int32} {x2 : Int32} {cx : jCX} {f : Nat → Int32} {g : Nat → Nat → Int32} {n : Nat → Nat → Int64} {b : Nat → Nat → Int32} {l : Nat → Int64} {t : List jE} {z : Nat × Nat × Nat × (Nat → Int32)}  : K_m_half_rotaAs_7 D x1 x2 cx f g n b l t z = if x2 < x1 then (if jout (x1 + x2) 12 then none else (if jout x2 12 then none else (K_m_half_rotaAs_7 D x1 (x2 + 1) cx f (jup g 8 ((jup (g 8) (x2.toNatClampNeg) (g 8 (x1 + x2).toNatClampNeg)))) n b l t z))) else (some (.inl (none), (jXt cx (jY f g n b l t), z))) := by
  refine (jev_blk 3 (pc' := if x2 < x1 then 10 else 20) (L' := ([some (.ref 88), some (.int x1), some (.int x2)], [])) (S' := []) (h' := (jXt cx (jY f g n b l t), z)) rfl).trans (jev_ite.trans (jite_congr (fun _ => ?_) (fun _ => ?_)))
  · refine (jev_blk 6 (pc' := 16) (L' := ([some (.ref 88), some (.int x1), some (.int x2)], [])) (S' := [.int (x1 + x2), .ref 88, .int x2, .ref 88]) (h' := (jXt cx (jY f g n b l t), z)) rfl).trans ?_
    refine (jev_grd (q := jout (x1 + x2) 12) (pc' := 17) (L' := ([some (.ref 88), some (.int x1), some (.int x2)], [])) (S' := [.int (g 8 (x1 + x2).toNatClampNeg), .int x2, .ref 88]) (h' := (jXt cx (jY f g n b l t), z)) rfl).trans (jite_congr (fun _ => rfl) (fun _ => ?_))
    refine (jev_grd (q := jout x2 12) (pc' := 18) (L' := ([some (.ref 88), some (.int x1), some (.int x2)], [])) (S' := []) (h' := (jXt cx (jY f (jup g 8 ((jup (g 8) (x2.toNatClampNeg) (g 8 (x1 + x2).toNatClampNeg)))) n b l t), z)) rfl).trans (jite_congr (fun _ => rfl) (fun _ => ?_))
    exact jev_blk 2 rfl
  · exact jev_fin rfl
set_option maxRecDepth 20000 in
theorem E_m_half_windAs {D : Nat}   {cx : jCX} {f : Nat → Int32} {g : Nat → Nat → Int32} {n : Nat → Nat → Int64} {b : Nat → Nat → Int32} {l : Nat → Int64} {t : List jE} {z : Nat × Nat × Nat × (Nat → Int32)}  : K_m_half_windAs D cx f g n b l t z = K_m_half_windAs_7 D ((Int32.ofNat 28) / 2) 0 cx f g n b l t z := by
  exact jev_blk 7 rfl
set_option maxRecDepth 20000 in
theorem L_m_half_windAs_7 {D : Nat}  {x1 : Int32} {x2 : Int32} {cx : jCX} {f : Nat → Int32} {g : Nat → Nat → Int32} {n : Nat → Nat → Int64} {b : Nat → Nat → Int32} {l : Nat → Int64} {t : List jE} {z : Nat × Nat × Nat × (Nat → Int32)}  : K_m_half_windAs_7 D x1 x2 cx f g n b l t z = if x2 < x1 then (if jout (x1 + x2) 28 then none else (if jout x2 28 then none else (K_m_half_windAs_7 D x1 (x2 + 1) cx f (jup g 9 ((jup (g 9) (x2.toNatClampNeg) (g 9 (x1 + x2).toNatClampNeg)))) n b l t z))) else (some (.inl (none), (jXt cx (jY f g n b l t), z))) := by
  refine (jev_blk 3 (pc' := if x2 < x1 then 10 else 20) (L' := ([some (.ref 89), some (.int x1), some (.int x2)], [])) (S' := []) (h' := (jXt cx (jY f g n b l t), z)) rfl).trans (jev_ite.trans (jite_congr (fun _ => ?_) (fun _ => ?_)))
  · refine (jev_blk 6 (pc' := 16) (L' := ([some (.ref 89), some (.int x1), some (.int x2)], [])) (S' := [.int (x1 + x2), .ref 89, .int x2, .ref 89]) (h' := (jXt cx (jY f g n b l t), z)) rfl).trans ?_
    refine (jev_grd (q := jout (x1 + x2) 28) (pc' := 17) (L' := ([some (.ref 89), some (.int x1), some (.int x2)], [])) (S' := [.int (g 9 (x1 + x2).toNatClampNeg), .int x2, .ref 89]) (h' := (jXt cx (jY f g n b l t), z)) rfl).trans (jite_congr (fun _ => rfl) (fun _ => ?_))
    refine (jev_grd (q := jout x2 28) (pc' := 18) (L' := ([some (.ref 89), some (.int x1), some (.int x2)], [])) (S' := []) (h' := (jXt cx (jY f (jup g 9 ((jup (g 9) (x2.toNatClampNeg) (g 9 (x1 + x2).toNatClampNeg)))) n b l t), z)) rfl).trans (jite_congr (fun _ => rfl) (fun _ => ?_))
    exact jev_blk 2 rfl
  · exact jev_fin rfl
set_option maxRecDepth 20000 in
theorem E_m_half_sumFrom {D : Nat}   {cx : jCX} {f : Nat → Int32} {g : Nat → Nat → Int32} {n : Nat → Nat → Int64} {b : Nat → Nat → Int32} {l : Nat → Int64} {t : List jE} {z : Nat × Nat × Nat × (Nat → Int32)}  : K_m_half_sumFrom D cx f g n b l t z = K_m_half_sumFrom_7 D ((Int32.ofNat 6) / 2) 0 cx f g n b l t z := by
  exact jev_blk 7 rfl
set_option maxRecDepth 20000 in
theorem L_m_half_sumFrom_7 {D : Nat}  {x1 : Int32} {x2 : Int32} {cx : jCX} {f : Nat → Int32} {g : Nat → Nat → Int32} {n : Nat → Nat → Int64} {b : Nat → Nat → Int32} {l : Nat → Int64} {t : List jE} {z : Nat × Nat × Nat × (Nat → Int32)}  : K_m_half_sumFrom_7 D x1 x2 cx f g n b l t z = if x2 < x1 then (if jout (x1 + x2) 6 then none else (if jout x2 6 then none else (K_m_half_sumFrom_7 D x1 (x2 + 1) cx f (jup g 10 ((jup (g 10) (x2.toNatClampNeg) (g 10 (x1 + x2).toNatClampNeg)))) n b l t z))) else (some (.inl (none), (jXt cx (jY f g n b l t), z))) := by
  refine (jev_blk 3 (pc' := if x2 < x1 then 10 else 20) (L' := ([some (.ref 90), some (.int x1), some (.int x2)], [])) (S' := []) (h' := (jXt cx (jY f g n b l t), z)) rfl).trans (jev_ite.trans (jite_congr (fun _ => ?_) (fun _ => ?_)))
  · refine (jev_blk 6 (pc' := 16) (L' := ([some (.ref 90), some (.int x1), some (.int x2)], [])) (S' := [.int (x1 + x2), .ref 90, .int x2, .ref 90]) (h' := (jXt cx (jY f g n b l t), z)) rfl).trans ?_
    refine (jev_grd (q := jout (x1 + x2) 6) (pc' := 17) (L' := ([some (.ref 90), some (.int x1), some (.int x2)], [])) (S' := [.int (g 10 (x1 + x2).toNatClampNeg), .int x2, .ref 90]) (h' := (jXt cx (jY f g n b l t), z)) rfl).trans (jite_congr (fun _ => rfl) (fun _ => ?_))
    refine (jev_grd (q := jout x2 6) (pc' := 18) (L' := ([some (.ref 90), some (.int x1), some (.int x2)], [])) (S' := []) (h' := (jXt cx (jY f (jup g 10 ((jup (g 10) (x2.toNatClampNeg) (g 10 (x1 + x2).toNatClampNeg)))) n b l t), z)) rfl).trans (jite_congr (fun _ => rfl) (fun _ => ?_))
    exact jev_blk 2 rfl
  · exact jev_fin rfl
set_option maxRecDepth 20000 in
theorem E_m_half_sumTo {D : Nat}   {cx : jCX} {f : Nat → Int32} {g : Nat → Nat → Int32} {n : Nat → Nat → Int64} {b : Nat → Nat → Int32} {l : Nat → Int64} {t : List jE} {z : Nat × Nat × Nat × (Nat → Int32)}  : K_m_half_sumTo D cx f g n b l t z = K_m_half_sumTo_7 D ((Int32.ofNat 6) / 2) 0 cx f g n b l t z := by
  exact jev_blk 7 rfl
