-- EQUATIONS: one a block; E_ unfolds, L_ a loop's head
set_option maxRecDepth 20000 in
theorem E_c_feed {D : Nat}  {a0 : Int32} {a1 : Int32} {a2 : Int32} {a3 : Int32} {a4 : Int32} {f : Nat → Int32} {g : Nat → Nat → Int32} {n2 : Nat → Nat → Int64} {p : Nat → Nat → Int32} {pa : Nat → Nat → Nat → Int32} {s : Nat → Nat → Int32} {sa : Nat → Nat → Nat → Int32} {sw : Bool} {rp : Value} {t : List jE} {z : Nat × Nat × Nat × (Nat → Int32)}  : K_c_feed D a0 a1 a2 a3 a4 f g n2 p pa s sa sw rp t z = if 700 < ((f 0) + 20) then (some (.inl (some (.int (-1))), (jX f g n2 p pa s sa sw rp t, z))) else (jbO (K_c_put D a0 f g n2 p pa s sa sw rp t z) (jk D 100 11 ([some (.ref 0), some (.int a0), some (.int a1), some (.int a2), some (.int a3), some (.int a4)], []) [])) := by
  cases sw
  · refine (jev_blk 6 (pc' := if 700 < ((f 0) + 20) then 6 else 8) (L' := ([some (.ref 0), some (.int a0), some (.int a1), some (.int a2), some (.int a3), some (.int a4)], [])) (S' := []) (h' := (jX f g n2 p pa s sa false rp t, z)) rfl).trans (jev_ite.trans (jite_congr (fun _ => ?_) (fun _ => ?_)))
    · refine (jev_blk 1 (pc' := 7) (L' := ([some (.ref 0), some (.int a0), some (.int a1), some (.int a2), some (.int a3), some (.int a4)], [])) (S' := [.int (-1)]) (h' := (jX f g n2 p pa s sa false rp t, z)) rfl).trans ?_
      exact jev_fin rfl
    · refine (jev_blk 2 (pc' := 10) (L' := ([some (.ref 0), some (.int a0), some (.int a1), some (.int a2), some (.int a3), some (.int a4)], [])) (S' := [.int a0, .ref 0]) (h' := (jX f g n2 p pa s sa false rp t, z)) rfl).trans ?_
      exact jev_callb (nx := 11) (rest := []) rfl
  · refine (jev_blk 6 (pc' := if 700 < ((f 0) + 20) then 6 else 8) (L' := ([some (.ref 0), some (.int a0), some (.int a1), some (.int a2), some (.int a3), some (.int a4)], [])) (S' := []) (h' := (jX f g n2 p pa s sa true rp t, z)) rfl).trans (jev_ite.trans (jite_congr (fun _ => ?_) (fun _ => ?_)))
    · refine (jev_blk 1 (pc' := 7) (L' := ([some (.ref 0), some (.int a0), some (.int a1), some (.int a2), some (.int a3), some (.int a4)], [])) (S' := [.int (-1)]) (h' := (jX f g n2 p pa s sa true rp t, z)) rfl).trans ?_
      exact jev_fin rfl
    · refine (jev_blk 2 (pc' := 10) (L' := ([some (.ref 0), some (.int a0), some (.int a1), some (.int a2), some (.int a3), some (.int a4)], [])) (S' := [.int a0, .ref 0]) (h' := (jX f g n2 p pa s sa true rp t, z)) rfl).trans ?_
      exact jev_callb (nx := 11) (rest := []) rfl
set_option maxRecDepth 20000 in
theorem E_c_feed_11 {D : Nat}  {d1 : Option Value} {x2 : Int32} {x3 : Int32} {x4 : Int32} {x5 : Int32} {f : Nat → Int32} {g : Nat → Nat → Int32} {n2 : Nat → Nat → Int64} {p : Nat → Nat → Int32} {pa : Nat → Nat → Nat → Int32} {s : Nat → Nat → Int32} {sa : Nat → Nat → Nat → Int32} {sw : Bool} {rp : Value} {t : List jE} {z : Nat × Nat × Nat × (Nat → Int32)}  : jev D 100 11 ([some (.ref 0), d1, some (.int x2), some (.int x3), some (.int x4), some (.int x5)], []) [] (jX f g n2 p pa s sa sw rp t, z) = jbO (K_c_put D x2 f g n2 p pa s sa sw rp t z) (jk D 100 14 ([some (.ref 0), d1, some (.int x2), some (.int x3), some (.int x4), some (.int x5)], []) []) := by
  cases sw
  · refine (jev_blk 2 (pc' := 13) (L' := ([some (.ref 0), d1, some (.int x2), some (.int x3), some (.int x4), some (.int x5)], [])) (S' := [.int x2, .ref 0]) (h' := (jX f g n2 p pa s sa false rp t, z)) rfl).trans ?_
    exact jev_callb (nx := 14) (rest := []) rfl
  · refine (jev_blk 2 (pc' := 13) (L' := ([some (.ref 0), d1, some (.int x2), some (.int x3), some (.int x4), some (.int x5)], [])) (S' := [.int x2, .ref 0]) (h' := (jX f g n2 p pa s sa true rp t, z)) rfl).trans ?_
    exact jev_callb (nx := 14) (rest := []) rfl
set_option maxRecDepth 20000 in
theorem E_c_feed_14 {D : Nat}  {d1 : Option Value} {d2 : Option Value} {x3 : Int32} {x4 : Int32} {x5 : Int32} {f : Nat → Int32} {g : Nat → Nat → Int32} {n2 : Nat → Nat → Int64} {p : Nat → Nat → Int32} {pa : Nat → Nat → Nat → Int32} {s : Nat → Nat → Int32} {sa : Nat → Nat → Nat → Int32} {sw : Bool} {rp : Value} {t : List jE} {z : Nat × Nat × Nat × (Nat → Int32)}  : jev D 100 14 ([some (.ref 0), d1, d2, some (.int x3), some (.int x4), some (.int x5)], []) [] (jX f g n2 p pa s sa sw rp t, z) = jbO (K_c_put D x3 f g n2 p pa s sa sw rp t z) (jk D 100 17 ([some (.ref 0), d1, d2, some (.int x3), some (.int x4), some (.int x5)], []) []) := by
  cases sw
  · refine (jev_blk 2 (pc' := 16) (L' := ([some (.ref 0), d1, d2, some (.int x3), some (.int x4), some (.int x5)], [])) (S' := [.int x3, .ref 0]) (h' := (jX f g n2 p pa s sa false rp t, z)) rfl).trans ?_
    exact jev_callb (nx := 17) (rest := []) rfl
  · refine (jev_blk 2 (pc' := 16) (L' := ([some (.ref 0), d1, d2, some (.int x3), some (.int x4), some (.int x5)], [])) (S' := [.int x3, .ref 0]) (h' := (jX f g n2 p pa s sa true rp t, z)) rfl).trans ?_
    exact jev_callb (nx := 17) (rest := []) rfl
set_option maxRecDepth 20000 in
theorem E_c_feed_17 {D : Nat}  {d1 : Option Value} {d2 : Option Value} {d3 : Option Value} {x4 : Int32} {x5 : Int32} {f : Nat → Int32} {g : Nat → Nat → Int32} {n2 : Nat → Nat → Int64} {p : Nat → Nat → Int32} {pa : Nat → Nat → Nat → Int32} {s : Nat → Nat → Int32} {sa : Nat → Nat → Nat → Int32} {sw : Bool} {rp : Value} {t : List jE} {z : Nat × Nat × Nat × (Nat → Int32)}  : jev D 100 17 ([some (.ref 0), d1, d2, d3, some (.int x4), some (.int x5)], []) [] (jX f g n2 p pa s sa sw rp t, z) = jbO (K_c_put D x4 f g n2 p pa s sa sw rp t z) (jk D 100 20 ([some (.ref 0), d1, d2, d3, some (.int x4), some (.int x5)], []) []) := by
  cases sw
  · refine (jev_blk 2 (pc' := 19) (L' := ([some (.ref 0), d1, d2, d3, some (.int x4), some (.int x5)], [])) (S' := [.int x4, .ref 0]) (h' := (jX f g n2 p pa s sa false rp t, z)) rfl).trans ?_
    exact jev_callb (nx := 20) (rest := []) rfl
  · refine (jev_blk 2 (pc' := 19) (L' := ([some (.ref 0), d1, d2, d3, some (.int x4), some (.int x5)], [])) (S' := [.int x4, .ref 0]) (h' := (jX f g n2 p pa s sa true rp t, z)) rfl).trans ?_
    exact jev_callb (nx := 20) (rest := []) rfl
set_option maxRecDepth 20000 in
theorem E_c_feed_20 {D : Nat}  {d1 : Option Value} {d2 : Option Value} {d3 : Option Value} {d4 : Option Value} {x5 : Int32} {f : Nat → Int32} {g : Nat → Nat → Int32} {n2 : Nat → Nat → Int64} {p : Nat → Nat → Int32} {pa : Nat → Nat → Nat → Int32} {s : Nat → Nat → Int32} {sa : Nat → Nat → Nat → Int32} {sw : Bool} {rp : Value} {t : List jE} {z : Nat × Nat × Nat × (Nat → Int32)}  : jev D 100 20 ([some (.ref 0), d1, d2, d3, d4, some (.int x5)], []) [] (jX f g n2 p pa s sa sw rp t, z) = jbO (K_c_put D x5 f g n2 p pa s sa sw rp t z) (jk D 100 23 ([some (.ref 0), d1, d2, d3, d4, some (.int x5)], []) []) := by
  cases sw
  · refine (jev_blk 2 (pc' := 22) (L' := ([some (.ref 0), d1, d2, d3, d4, some (.int x5)], [])) (S' := [.int x5, .ref 0]) (h' := (jX f g n2 p pa s sa false rp t, z)) rfl).trans ?_
    exact jev_callb (nx := 23) (rest := []) rfl
  · refine (jev_blk 2 (pc' := 22) (L' := ([some (.ref 0), d1, d2, d3, d4, some (.int x5)], [])) (S' := [.int x5, .ref 0]) (h' := (jX f g n2 p pa s sa true rp t, z)) rfl).trans ?_
    exact jev_callb (nx := 23) (rest := []) rfl
set_option maxRecDepth 20000 in
theorem E_c_feed_23 {D : Nat}  {d1 : Option Value} {d2 : Option Value} {d3 : Option Value} {d4 : Option Value} {d5 : Option Value} {f : Nat → Int32} {g : Nat → Nat → Int32} {n2 : Nat → Nat → Int64} {p : Nat → Nat → Int32} {pa : Nat → Nat → Nat → Int32} {s : Nat → Nat → Int32} {sa : Nat → Nat → Nat → Int32} {sw : Bool} {rp : Value} {t : List jE} {z : Nat × Nat × Nat × (Nat → Int32)}  : jev D 100 23 ([some (.ref 0), d1, d2, d3, d4, d5], []) [] (jX f g n2 p pa s sa sw rp t, z) = some (.inl (some (.int (f 0))), (jX f g n2 p pa s sa sw rp t, z)) := by
  cases sw
  · refine (jev_blk 2 (pc' := 25) (L' := ([some (.ref 0), d1, d2, d3, d4, d5], [])) (S' := [.int (f 0)]) (h' := (jX f g n2 p pa s sa false rp t, z)) rfl).trans ?_
    exact jev_fin rfl
  · refine (jev_blk 2 (pc' := 25) (L' := ([some (.ref 0), d1, d2, d3, d4, d5], [])) (S' := [.int (f 0)]) (h' := (jX f g n2 p pa s sa true rp t, z)) rfl).trans ?_
    exact jev_fin rfl
set_option maxRecDepth 20000 in
theorem E_c_put {D : Nat}  {a0 : Int32} {f : Nat → Int32} {g : Nat → Nat → Int32} {n2 : Nat → Nat → Int64} {p : Nat → Nat → Int32} {pa : Nat → Nat → Nat → Int32} {s : Nat → Nat → Int32} {sa : Nat → Nat → Nat → Int32} {sw : Bool} {rp : Value} {t : List jE} {z : Nat × Nat × Nat × (Nat → Int32)}  : K_c_put D a0 f g n2 p pa s sa sw rp t z = K_c_put_2 D a0 24 f g n2 p pa s sa sw rp t z := by
  cases sw
  · exact jev_blk 2 rfl
  · exact jev_blk 2 rfl
set_option maxRecDepth 20000 in
theorem L_c_put_2 {D : Nat}  {x1 : Int32} {x2 : Int32} {f : Nat → Int32} {g : Nat → Nat → Int32} {n2 : Nat → Nat → Int64} {p : Nat → Nat → Int32} {pa : Nat → Nat → Nat → Int32} {s : Nat → Nat → Int32} {sa : Nat → Nat → Nat → Int32} {sw : Bool} {rp : Value} {t : List jE} {z : Nat × Nat × Nat × (Nat → Int32)}  : K_c_put_2 D x1 x2 f g n2 p pa s sa sw rp t z = if x2 < 0 then (some (.inl (none), (jX f g n2 p pa s sa sw rp t, z))) else (if (f 0) < 700 then (if jout (f 0) 700 then none else (K_c_put_2 D x1 (x2 + (-8)) (jup f 0 (((f 0) + 1))) (jup g 0 ((jup (g 0) ((f 0).toNatClampNeg) ((x1 >>> (x2 &&& 31)) &&& 255)))) n2 p pa s sa sw rp t z)) else (some (.inl (none), (jX f g n2 p pa s sa sw rp t, z)))) := by
  cases sw
  · refine (jev_blk 2 (pc' := if x2 < 0 then 28 else 4) (L' := ([some (.ref 0), some (.int x1), some (.int x2)], [])) (S' := []) (h' := (jX f g n2 p pa s sa false rp t, z)) rfl).trans (jev_ite.trans (jite_congr (fun _ => ?_) (fun _ => ?_)))
    · exact jev_fin rfl
    · refine (jev_blk 4 (pc' := if (f 0) < 700 then 8 else 28) (L' := ([some (.ref 0), some (.int x1), some (.int x2)], [])) (S' := []) (h' := (jX f g n2 p pa s sa false rp t, z)) rfl).trans (jev_ite.trans (jite_congr (fun _ => ?_) (fun _ => ?_)))
      · refine (jev_blk 11 (pc' := 19) (L' := ([some (.ref 0), some (.int x1), some (.int x2)], [])) (S' := [.int ((x1 >>> (x2 &&& 31)) &&& 255), .int (f 0), .ref 3]) (h' := (jX f g n2 p pa s sa false rp t, z)) rfl).trans ?_
        refine (jev_grd (q := jout (f 0) 700) (pc' := 20) (L' := ([some (.ref 0), some (.int x1), some (.int x2)], [])) (S' := []) (h' := (jX f (jup g 0 ((jup (g 0) ((f 0).toNatClampNeg) ((x1 >>> (x2 &&& 31)) &&& 255)))) n2 p pa s sa false rp t, z)) rfl).trans (jite_congr (fun _ => rfl) (fun _ => ?_))
        exact jev_blk 8 rfl
      · exact jev_fin rfl
  · refine (jev_blk 2 (pc' := if x2 < 0 then 28 else 4) (L' := ([some (.ref 0), some (.int x1), some (.int x2)], [])) (S' := []) (h' := (jX f g n2 p pa s sa true rp t, z)) rfl).trans (jev_ite.trans (jite_congr (fun _ => ?_) (fun _ => ?_)))
    · exact jev_fin rfl
    · refine (jev_blk 4 (pc' := if (f 0) < 700 then 8 else 28) (L' := ([some (.ref 0), some (.int x1), some (.int x2)], [])) (S' := []) (h' := (jX f g n2 p pa s sa true rp t, z)) rfl).trans (jev_ite.trans (jite_congr (fun _ => ?_) (fun _ => ?_)))
      · refine (jev_blk 11 (pc' := 19) (L' := ([some (.ref 0), some (.int x1), some (.int x2)], [])) (S' := [.int ((x1 >>> (x2 &&& 31)) &&& 255), .int (f 0), .ref 3]) (h' := (jX f g n2 p pa s sa true rp t, z)) rfl).trans ?_
        refine (jev_grd (q := jout (f 0) 700) (pc' := 20) (L' := ([some (.ref 0), some (.int x1), some (.int x2)], [])) (S' := []) (h' := (jX f (jup g 0 ((jup (g 0) ((f 0).toNatClampNeg) ((x1 >>> (x2 &&& 31)) &&& 255)))) n2 p pa s sa true rp t, z)) rfl).trans (jite_congr (fun _ => rfl) (fun _ => ?_))
        exact jev_blk 8 rfl
      · exact jev_fin rfl
set_option maxRecDepth 20000 in
theorem E_c_text {D : Nat}  {a0 : Int32} {f : Nat → Int32} {g : Nat → Nat → Int32} {n2 : Nat → Nat → Int64} {p : Nat → Nat → Int32} {pa : Nat → Nat → Nat → Int32} {s : Nat → Nat → Int32} {sa : Nat → Nat → Nat → Int32} {sw : Bool} {rp : Value} {t : List jE} {z : Nat × Nat × Nat × (Nat → Int32)}  : K_c_text D a0 f g n2 p pa s sa sw rp t z = if a0 < 0 then (some (.inl (some (.int (-2))), (jX f g n2 p pa s sa sw rp t, z))) else (if (f 0) < a0 then (some (.inl (some (.int (-2))), (jX f g n2 p pa s sa sw rp t, z))) else (jbO (K_r_start D (!sw) a0 (jup f 0 (0)) g n2 p pa s sa sw rp t z) (jk D 102 17 ([some (.ref 0), some (.int a0), none], []) []))) := by
  cases sw
  · refine (jev_blk 2 (pc' := if a0 < 0 then 6 else 2) (L' := ([some (.ref 0), some (.int a0), none], [])) (S' := []) (h' := (jX f g n2 p pa s sa false rp t, z)) rfl).trans (jev_ite.trans (jite_congr (fun _ => ?_) (fun _ => ?_)))
    · refine (jev_blk 1 (pc' := 7) (L' := ([some (.ref 0), some (.int a0), none], [])) (S' := [.int (-2)]) (h' := (jX f g n2 p pa s sa false rp t, z)) rfl).trans ?_
      exact jev_fin rfl
    · refine (jev_blk 4 (pc' := if (f 0) < a0 then 6 else 8) (L' := ([some (.ref 0), some (.int a0), none], [])) (S' := []) (h' := (jX f g n2 p pa s sa false rp t, z)) rfl).trans (jev_ite.trans (jite_congr (fun _ => ?_) (fun _ => ?_)))
      · refine (jev_blk 1 (pc' := 7) (L' := ([some (.ref 0), some (.int a0), none], [])) (S' := [.int (-2)]) (h' := (jX f g n2 p pa s sa false rp t, z)) rfl).trans ?_
        exact jev_fin rfl
      · refine (jev_blk 8 (pc' := 16) (L' := ([some (.ref 0), some (.int a0), none], [])) (S' := [.int a0, .ref (jpl (!false)), .ref 1]) (h' := (jX (jup f 0 (0)) g n2 p pa s sa false rp t, z)) rfl).trans ?_
        exact jev_callb (nx := 17) (rest := []) rfl
  · refine (jev_blk 2 (pc' := if a0 < 0 then 6 else 2) (L' := ([some (.ref 0), some (.int a0), none], [])) (S' := []) (h' := (jX f g n2 p pa s sa true rp t, z)) rfl).trans (jev_ite.trans (jite_congr (fun _ => ?_) (fun _ => ?_)))
    · refine (jev_blk 1 (pc' := 7) (L' := ([some (.ref 0), some (.int a0), none], [])) (S' := [.int (-2)]) (h' := (jX f g n2 p pa s sa true rp t, z)) rfl).trans ?_
      exact jev_fin rfl
    · refine (jev_blk 4 (pc' := if (f 0) < a0 then 6 else 8) (L' := ([some (.ref 0), some (.int a0), none], [])) (S' := []) (h' := (jX f g n2 p pa s sa true rp t, z)) rfl).trans (jev_ite.trans (jite_congr (fun _ => ?_) (fun _ => ?_)))
      · refine (jev_blk 1 (pc' := 7) (L' := ([some (.ref 0), some (.int a0), none], [])) (S' := [.int (-2)]) (h' := (jX f g n2 p pa s sa true rp t, z)) rfl).trans ?_
        exact jev_fin rfl
      · refine (jev_blk 8 (pc' := 16) (L' := ([some (.ref 0), some (.int a0), none], [])) (S' := [.int a0, .ref (jpl (!true)), .ref 1]) (h' := (jX (jup f 0 (0)) g n2 p pa s sa true rp t, z)) rfl).trans ?_
        exact jev_callb (nx := 17) (rest := []) rfl
set_option maxRecDepth 20000 in
theorem E_c_text_17 {D : Nat}  {d1 : Option Value} {d2 : Option Value} {f : Nat → Int32} {g : Nat → Nat → Int32} {n2 : Nat → Nat → Int64} {p : Nat → Nat → Int32} {pa : Nat → Nat → Nat → Int32} {s : Nat → Nat → Int32} {sa : Nat → Nat → Nat → Int32} {sw : Bool} {t : List jE} {z : Nat × Nat × Nat × (Nat → Int32)}  : jev D 102 17 ([some (.ref 0), d1, d2], []) [] (jX f g n2 p pa s sa sw (.ref (jpl (!sw))) t, z) = K_c_text_19 D d1 0 f g n2 p pa s sa sw (.ref (jpl (!sw))) t z := by
  cases sw
  · exact jev_blk 2 rfl
  · exact jev_blk 2 rfl
set_option maxRecDepth 20000 in
theorem L_c_text_19 {D : Nat}  {d1 : Option Value} {x2 : Int32} {f : Nat → Int32} {g : Nat → Nat → Int32} {n2 : Nat → Nat → Int64} {p : Nat → Nat → Int32} {pa : Nat → Nat → Nat → Int32} {s : Nat → Nat → Int32} {sa : Nat → Nat → Nat → Int32} {sw : Bool} {t : List jE} {z : Nat × Nat × Nat × (Nat → Int32)}  : K_c_text_19 D d1 x2 f g n2 p pa s sa sw (.ref (jpl (!sw))) t z = if x2 < 700 then (jbO (K_r_atEnd D (!sw) f g n2 p pa s sa sw t z) (jk D 102 25 ([some (.ref 0), d1, some (.int x2)], []) [])) else (K_c_text_34 D d1 (some (.int x2)) f g n2 p pa s sa sw (.ref (jpl (!sw))) t z) := by
  cases sw
  · refine (jev_blk 3 (pc' := if x2 < 700 then 22 else 34) (L' := ([some (.ref 0), d1, some (.int x2)], [])) (S' := []) (h' := (jX f g n2 p pa s sa false (.ref (jpl (!false))) t, z)) rfl).trans (jev_ite.trans (jite_congr (fun _ => ?_) (fun _ => ?_)))
    · refine (jev_blk 2 (pc' := 24) (L' := ([some (.ref 0), d1, some (.int x2)], [])) (S' := [.ref 1]) (h' := (jX f g n2 p pa s sa false (.ref (jpl (!false))) t, z)) rfl).trans ?_
      exact jev_callb (nx := 25) (rest := []) rfl
    · rfl
  · refine (jev_blk 3 (pc' := if x2 < 700 then 22 else 34) (L' := ([some (.ref 0), d1, some (.int x2)], [])) (S' := []) (h' := (jX f g n2 p pa s sa true (.ref (jpl (!true))) t, z)) rfl).trans (jev_ite.trans (jite_congr (fun _ => ?_) (fun _ => ?_)))
    · refine (jev_blk 2 (pc' := 24) (L' := ([some (.ref 0), d1, some (.int x2)], [])) (S' := [.ref 1]) (h' := (jX f g n2 p pa s sa true (.ref (jpl (!true))) t, z)) rfl).trans ?_
      exact jev_callb (nx := 25) (rest := []) rfl
    · rfl
set_option maxRecDepth 20000 in
theorem E_c_text_34 {D : Nat}  {d1 : Option Value} {d2 : Option Value} {f : Nat → Int32} {g : Nat → Nat → Int32} {n2 : Nat → Nat → Int64} {p : Nat → Nat → Int32} {pa : Nat → Nat → Nat → Int32} {s : Nat → Nat → Int32} {sa : Nat → Nat → Nat → Int32} {sw : Bool} {t : List jE} {z : Nat × Nat × Nat × (Nat → Int32)}  : K_c_text_34 D d1 d2 f g n2 p pa s sa sw (.ref (jpl (!sw))) t z = jbO (K_s_begin D 0 (!sw) f g n2 p pa s sa (!sw) (.ref (jpl (!sw))) t z) (jk D 102 52 ([some (.ref 0), d1, some (.ref (jpl (!sw)))], []) []) := by
  cases sw
  · refine (jev_blk 17 (pc' := 51) (L' := ([some (.ref 0), d1, some (.ref (jpl (!false)))], [])) (S' := [.ref (jpl (!false)), .ref 49]) (h' := (jX f g n2 p pa s sa (!false) (.ref (jpl (!false))) t, z)) rfl).trans ?_
    exact jev_callb (nx := 52) (rest := []) rfl
  · refine (jev_blk 17 (pc' := 51) (L' := ([some (.ref 0), d1, some (.ref (jpl (!true)))], [])) (S' := [.ref (jpl (!true)), .ref 49]) (h' := (jX f g n2 p pa s sa (!true) (.ref (jpl (!true))) t, z)) rfl).trans ?_
    exact jev_callb (nx := 52) (rest := []) rfl
set_option maxRecDepth 20000 in
theorem E_c_text_25 {D : Nat}  {d1 : Option Value} {x2 : Int32} {u0 : Int32} {f : Nat → Int32} {g : Nat → Nat → Int32} {n2 : Nat → Nat → Int64} {p : Nat → Nat → Int32} {pa : Nat → Nat → Nat → Int32} {s : Nat → Nat → Int32} {sa : Nat → Nat → Nat → Int32} {sw : Bool} {t : List jE} {z : Nat × Nat × Nat × (Nat → Int32)}  : jev D 102 25 ([some (.ref 0), d1, some (.int x2)], []) [.int u0] (jX f g n2 p pa s sa sw (.ref (jpl (!sw))) t, z) = if u0 = 0 then (jbO (K_r_readLine D (!sw) f g n2 p pa s sa sw t z) (jk D 102 29 ([some (.ref 0), d1, some (.int x2)], []) [])) else (K_c_text_34 D d1 (some (.int x2)) f g n2 p pa s sa sw (.ref (jpl (!sw))) t z) := by
  cases sw
  · refine (jev_blk 1 (pc' := if u0 = 0 then 26 else 34) (L' := ([some (.ref 0), d1, some (.int x2)], [])) (S' := []) (h' := (jX f g n2 p pa s sa false (.ref (jpl (!false))) t, z)) rfl).trans (jev_ite.trans (jite_congr (fun _ => ?_) (fun _ => ?_)))
    · refine (jev_blk 2 (pc' := 28) (L' := ([some (.ref 0), d1, some (.int x2)], [])) (S' := [.ref 1]) (h' := (jX f g n2 p pa s sa false (.ref (jpl (!false))) t, z)) rfl).trans ?_
      exact jev_callb (nx := 29) (rest := []) rfl
    · rfl
  · refine (jev_blk 1 (pc' := if u0 = 0 then 26 else 34) (L' := ([some (.ref 0), d1, some (.int x2)], [])) (S' := []) (h' := (jX f g n2 p pa s sa true (.ref (jpl (!true))) t, z)) rfl).trans (jev_ite.trans (jite_congr (fun _ => ?_) (fun _ => ?_)))
    · refine (jev_blk 2 (pc' := 28) (L' := ([some (.ref 0), d1, some (.int x2)], [])) (S' := [.ref 1]) (h' := (jX f g n2 p pa s sa true (.ref (jpl (!true))) t, z)) rfl).trans ?_
      exact jev_callb (nx := 29) (rest := []) rfl
    · rfl
set_option maxRecDepth 20000 in
theorem E_c_text_52 {D : Nat}  {d1 : Option Value} {f : Nat → Int32} {g : Nat → Nat → Int32} {n2 : Nat → Nat → Int64} {p : Nat → Nat → Int32} {pa : Nat → Nat → Nat → Int32} {s : Nat → Nat → Int32} {sa : Nat → Nat → Nat → Int32} {sw : Bool} {t : List jE} {z : Nat × Nat × Nat × (Nat → Int32)}  : jev D 102 52 ([some (.ref 0), d1, some (.ref (jpl (!sw)))], []) [] (jX f g n2 p pa s sa sw (.ref (jpl (!sw))) t, z) = jbO (K_n_clear D f g n2 p pa s sa sw (.ref (jpl (!sw))) t z) (jk D 102 55 ([some (.ref 0), d1, some (.ref (jpl (!sw)))], []) []) := by
  cases sw
  · refine (jev_blk 2 (pc' := 54) (L' := ([some (.ref 0), d1, some (.ref (jpl (!false)))], [])) (S' := [.ref 71]) (h' := (jX f g n2 p pa s sa false (.ref (jpl (!false))) t, z)) rfl).trans ?_
    exact jev_callb (nx := 55) (rest := []) rfl
  · refine (jev_blk 2 (pc' := 54) (L' := ([some (.ref 0), d1, some (.ref (jpl (!true)))], [])) (S' := [.ref 71]) (h' := (jX f g n2 p pa s sa true (.ref (jpl (!true))) t, z)) rfl).trans ?_
    exact jev_callb (nx := 55) (rest := []) rfl
set_option maxRecDepth 20000 in
theorem E_c_text_29 {D : Nat}  {d1 : Option Value} {x2 : Int32} {u0 : Int32} {f : Nat → Int32} {g : Nat → Nat → Int32} {n2 : Nat → Nat → Int64} {p : Nat → Nat → Int32} {pa : Nat → Nat → Nat → Int32} {s : Nat → Nat → Int32} {sa : Nat → Nat → Nat → Int32} {sw : Bool} {t : List jE} {z : Nat × Nat × Nat × (Nat → Int32)}  : jev D 102 29 ([some (.ref 0), d1, some (.int x2)], []) [.int u0] (jX f g n2 p pa s sa sw (.ref (jpl (!sw))) t, z) = if u0 = 0 then (some (.inl (some (.int (-1))), (jX f g n2 p pa s sa sw (.ref (jpl (!sw))) t, z))) else (K_c_text_19 D d1 (x2 + 1) f g n2 p pa s sa sw (.ref (jpl (!sw))) t z) := by
  cases sw
  · refine (jev_blk 1 (pc' := if u0 = 0 then 30 else 32) (L' := ([some (.ref 0), d1, some (.int x2)], [])) (S' := []) (h' := (jX f g n2 p pa s sa false (.ref (jpl (!false))) t, z)) rfl).trans (jev_ite.trans (jite_congr (fun _ => ?_) (fun _ => ?_)))
    · refine (jev_blk 1 (pc' := 31) (L' := ([some (.ref 0), d1, some (.int x2)], [])) (S' := [.int (-1)]) (h' := (jX f g n2 p pa s sa false (.ref (jpl (!false))) t, z)) rfl).trans ?_
      exact jev_fin rfl
    · exact jev_blk 2 rfl
  · refine (jev_blk 1 (pc' := if u0 = 0 then 30 else 32) (L' := ([some (.ref 0), d1, some (.int x2)], [])) (S' := []) (h' := (jX f g n2 p pa s sa true (.ref (jpl (!true))) t, z)) rfl).trans (jev_ite.trans (jite_congr (fun _ => ?_) (fun _ => ?_)))
    · refine (jev_blk 1 (pc' := 31) (L' := ([some (.ref 0), d1, some (.int x2)], [])) (S' := [.int (-1)]) (h' := (jX f g n2 p pa s sa true (.ref (jpl (!true))) t, z)) rfl).trans ?_
      exact jev_fin rfl
    · exact jev_blk 2 rfl
set_option maxRecDepth 20000 in
theorem E_c_text_55 {D : Nat}  {d1 : Option Value} {f : Nat → Int32} {g : Nat → Nat → Int32} {n2 : Nat → Nat → Int64} {p : Nat → Nat → Int32} {pa : Nat → Nat → Nat → Int32} {s : Nat → Nat → Int32} {sa : Nat → Nat → Nat → Int32} {sw : Bool} {t : List jE} {z : Nat × Nat × Nat × (Nat → Int32)}  : jev D 102 55 ([some (.ref 0), d1, some (.ref (jpl (!sw)))], []) [] (jX f g n2 p pa s sa sw (.ref (jpl (!sw))) t, z) = some (.inl (some (.int (p (jq (!sw)) 0))), (jX (jup (jup f 1 (0)) 23 (0)) g n2 p pa s sa sw (.ref (jpl (!sw))) t, z)) := by
  cases sw
  · refine (jev_blk 9 (pc' := 64) (L' := ([some (.ref 0), d1, some (.ref (jpl (!false)))], [])) (S' := [.int (p (jq (!false)) 0)]) (h' := (jX (jup (jup f 1 (0)) 23 (0)) g n2 p pa s sa false (.ref (jpl (!false))) t, z)) rfl).trans ?_
    exact jev_fin rfl
  · refine (jev_blk 9 (pc' := 64) (L' := ([some (.ref 0), d1, some (.ref (jpl (!true)))], [])) (S' := [.int (p (jq (!true)) 0)]) (h' := (jX (jup (jup f 1 (0)) 23 (0)) g n2 p pa s sa true (.ref (jpl (!true))) t, z)) rfl).trans ?_
    exact jev_fin rfl
set_option maxRecDepth 20000 in
theorem E_c_fault {D : Nat}  {a0 : Int32} {f : Nat → Int32} {g : Nat → Nat → Int32} {n2 : Nat → Nat → Int64} {p : Nat → Nat → Int32} {pa : Nat → Nat → Nat → Int32} {s : Nat → Nat → Int32} {sa : Nat → Nat → Nat → Int32} {sw : Bool} {rp : Value} {t : List jE} {z : Nat × Nat × Nat × (Nat → Int32)}  : K_c_fault D a0 f g n2 p pa s sa sw rp t z = if a0 = 0 then (some (.inl (some (.int (f 7))), (jX f g n2 p pa s sa sw rp t, z))) else (if a0 = 1 then (some (.inl (some (.int (f 8))), (jX f g n2 p pa s sa sw rp t, z))) else (some (.inl (some (.int (-1))), (jX f g n2 p pa s sa sw rp t, z)))) := by
  cases sw
  · refine (jev_blk 2 (pc' := if a0 = 0 then 2 else if a0 = 1 then 6 else 10) (L' := ([some (.ref 0), some (.int a0)], [])) (S' := []) (h' := (jX f g n2 p pa s sa false rp t, z)) rfl).trans ?_
    refine jev_ite.trans (jite_congr (fun _ => ?_) (fun _ => ?_))
    · refine (jev_blk 3 (pc' := 5) (L' := ([some (.ref 0), some (.int a0)], [])) (S' := [.int (f 7)]) (h' := (jX f g n2 p pa s sa false rp t, z)) rfl).trans ?_
      exact jev_fin rfl
    · refine jev_ite.trans (jite_congr (fun _ => ?_) (fun _ => ?_))
      · refine (jev_blk 3 (pc' := 9) (L' := ([some (.ref 0), some (.int a0)], [])) (S' := [.int (f 8)]) (h' := (jX f g n2 p pa s sa false rp t, z)) rfl).trans ?_
        exact jev_fin rfl
      · refine (jev_blk 1 (pc' := 11) (L' := ([some (.ref 0), some (.int a0)], [])) (S' := [.int (-1)]) (h' := (jX f g n2 p pa s sa false rp t, z)) rfl).trans ?_
        exact jev_fin rfl
  · refine (jev_blk 2 (pc' := if a0 = 0 then 2 else if a0 = 1 then 6 else 10) (L' := ([some (.ref 0), some (.int a0)], [])) (S' := []) (h' := (jX f g n2 p pa s sa true rp t, z)) rfl).trans ?_
    refine jev_ite.trans (jite_congr (fun _ => ?_) (fun _ => ?_))
    · refine (jev_blk 3 (pc' := 5) (L' := ([some (.ref 0), some (.int a0)], [])) (S' := [.int (f 7)]) (h' := (jX f g n2 p pa s sa true rp t, z)) rfl).trans ?_
      exact jev_fin rfl
    · refine jev_ite.trans (jite_congr (fun _ => ?_) (fun _ => ?_))
      · refine (jev_blk 3 (pc' := 9) (L' := ([some (.ref 0), some (.int a0)], [])) (S' := [.int (f 8)]) (h' := (jX f g n2 p pa s sa true rp t, z)) rfl).trans ?_
        exact jev_fin rfl
      · refine (jev_blk 1 (pc' := 11) (L' := ([some (.ref 0), some (.int a0)], [])) (S' := [.int (-1)]) (h' := (jX f g n2 p pa s sa true rp t, z)) rfl).trans ?_
        exact jev_fin rfl
set_option maxRecDepth 20000 in
theorem E_c_named {D : Nat}  {a0 : Int32} {f : Nat → Int32} {g : Nat → Nat → Int32} {n2 : Nat → Nat → Int64} {p : Nat → Nat → Int32} {pa : Nat → Nat → Nat → Int32} {s : Nat → Nat → Int32} {sa : Nat → Nat → Nat → Int32} {sw : Bool} {rp : Value} {t : List jE} {z : Nat × Nat × Nat × (Nat → Int32)}  : K_c_named D a0 f g n2 p pa s sa sw rp t z = jbO (K_p_find D sw a0 f g n2 p pa s sa sw rp t z) (jk D 104 4 ([some (.ref 0), some (.int a0)], []) []) := by
  cases sw
  · refine (jev_blk 3 (pc' := 3) (L' := ([some (.ref 0), some (.int a0)], [])) (S' := [.int a0, .ref (jpl false)]) (h' := (jX f g n2 p pa s sa false rp t, z)) rfl).trans ?_
    exact jev_callb (nx := 4) (rest := []) rfl
  · refine (jev_blk 3 (pc' := 3) (L' := ([some (.ref 0), some (.int a0)], [])) (S' := [.int a0, .ref (jpl true)]) (h' := (jX f g n2 p pa s sa true rp t, z)) rfl).trans ?_
    exact jev_callb (nx := 4) (rest := []) rfl
set_option maxRecDepth 20000 in
theorem E_c_named_4 {D : Nat}  {d1 : Option Value} {u0 : Int32} {f : Nat → Int32} {g : Nat → Nat → Int32} {n2 : Nat → Nat → Int64} {p : Nat → Nat → Int32} {pa : Nat → Nat → Nat → Int32} {s : Nat → Nat → Int32} {sa : Nat → Nat → Nat → Int32} {sw : Bool} {rp : Value} {t : List jE} {z : Nat × Nat × Nat × (Nat → Int32)}  : jev D 104 4 ([some (.ref 0), d1], []) [.int u0] (jX f g n2 p pa s sa sw rp t, z) = some (.inl (some (.int u0)), (jX f g n2 p pa s sa sw rp t, z)) := by
  cases sw
  · exact jev_fin rfl
  · exact jev_fin rfl
set_option maxRecDepth 20000 in
theorem E_c_cell {D : Nat}  {a0 : Int32} {a1 : Int32} {f : Nat → Int32} {g : Nat → Nat → Int32} {n2 : Nat → Nat → Int64} {p : Nat → Nat → Int32} {pa : Nat → Nat → Nat → Int32} {s : Nat → Nat → Int32} {sa : Nat → Nat → Nat → Int32} {sw : Bool} {rp : Value} {t : List jE} {z : Nat × Nat × Nat × (Nat → Int32)}  : K_c_cell D a0 a1 f g n2 p pa s sa sw rp t z = jbO (K_p_hasCell D sw a0 f g n2 p pa s sa sw rp t z) (jk D 105 4 ([some (.ref 0), some (.int a0), some (.int a1)], []) []) := by
  cases sw
  · refine (jev_blk 3 (pc' := 3) (L' := ([some (.ref 0), some (.int a0), some (.int a1)], [])) (S' := [.int a0, .ref (jpl false)]) (h' := (jX f g n2 p pa s sa false rp t, z)) rfl).trans ?_
    exact jev_callb (nx := 4) (rest := []) rfl
  · refine (jev_blk 3 (pc' := 3) (L' := ([some (.ref 0), some (.int a0), some (.int a1)], [])) (S' := [.int a0, .ref (jpl true)]) (h' := (jX f g n2 p pa s sa true rp t, z)) rfl).trans ?_
    exact jev_callb (nx := 4) (rest := []) rfl
set_option maxRecDepth 20000 in
theorem E_c_cell_4 {D : Nat}  {x1 : Int32} {x2 : Int32} {u0 : Int32} {f : Nat → Int32} {g : Nat → Nat → Int32} {n2 : Nat → Nat → Int64} {p : Nat → Nat → Int32} {pa : Nat → Nat → Nat → Int32} {s : Nat → Nat → Int32} {sa : Nat → Nat → Nat → Int32} {sw : Bool} {rp : Value} {t : List jE} {z : Nat × Nat × Nat × (Nat → Int32)}  : jev D 105 4 ([some (.ref 0), some (.int x1), some (.int x2)], []) [.int u0] (jX f g n2 p pa s sa sw rp t, z) = if u0 = 0 then (some (.inr 1, (jX f g n2 p pa s sa sw rp t, (z.1 + 1, z.2.1 + 6, z.2.2)))) else (if x2 = 0 then (if jout x1 30 then none else (some (.inl (some (.int (sa 0 0 x1.toNatClampNeg))), (jX f g n2 p pa s sa sw rp t, z)))) else (if x2 = 1 then (if jout (s 0 1) 12 then none else (some (.inl (some (.int (((sa 0 1 (s 0 1).toNatClampNeg) >>> (x1 &&& 31)) &&& 1))), (jX f g n2 p pa s sa sw rp t, z)))) else (if x2 = 2 then (jbO (K_c_seenNow D f g n2 p pa s sa sw rp t z) (jk D 105 32 ([some (.ref 0), some (.int x1), some (.int x2)], []) [])) else (some (.inr 2, (jX f g n2 p pa s sa sw rp t, (z.1 + 1, z.2.1 + 6, z.2.2))))))) := by
  cases sw
  · refine (jev_blk 1 (pc' := if u0 = 0 then 5 else 10) (L' := ([some (.ref 0), some (.int x1), some (.int x2)], [])) (S' := []) (h' := (jX f g n2 p pa s sa false rp t, z)) rfl).trans (jev_ite.trans (jite_congr (fun _ => ?_) (fun _ => ?_)))
    · exact jev_fin rfl
    · refine (jev_blk 2 (pc' := if x2 = 0 then 12 else if x2 = 1 then 18 else if x2 = 2 then 30 else 37) (L' := ([some (.ref 0), some (.int x1), some (.int x2)], [])) (S' := []) (h' := (jX f g n2 p pa s sa false rp t, z)) rfl).trans ?_
      refine jev_ite.trans (jite_congr (fun _ => ?_) (fun _ => ?_))
      · refine (jev_blk 4 (pc' := 16) (L' := ([some (.ref 0), some (.int x1), some (.int x2)], [])) (S' := [.int x1, .ref 50]) (h' := (jX f g n2 p pa s sa false rp t, z)) rfl).trans ?_
        refine (jev_grd (q := jout x1 30) (pc' := 17) (L' := ([some (.ref 0), some (.int x1), some (.int x2)], [])) (S' := [.int (sa 0 0 x1.toNatClampNeg)]) (h' := (jX f g n2 p pa s sa false rp t, z)) rfl).trans (jite_congr (fun _ => rfl) (fun _ => ?_))
        exact jev_fin rfl
      · refine jev_ite.trans (jite_congr (fun _ => ?_) (fun _ => ?_))
        · refine (jev_blk 6 (pc' := 24) (L' := ([some (.ref 0), some (.int x1), some (.int x2)], [])) (S' := [.int (s 0 1), .ref 51]) (h' := (jX f g n2 p pa s sa false rp t, z)) rfl).trans ?_
          refine (jev_grd (q := jout (s 0 1) 12) (pc' := 25) (L' := ([some (.ref 0), some (.int x1), some (.int x2)], [])) (S' := [.int (sa 0 1 (s 0 1).toNatClampNeg)]) (h' := (jX f g n2 p pa s sa false rp t, z)) rfl).trans (jite_congr (fun _ => rfl) (fun _ => ?_))
          refine (jev_blk 4 (pc' := 29) (L' := ([some (.ref 0), some (.int x1), some (.int x2)], [])) (S' := [.int (((sa 0 1 (s 0 1).toNatClampNeg) >>> (x1 &&& 31)) &&& 1)]) (h' := (jX f g n2 p pa s sa false rp t, z)) rfl).trans ?_
          exact jev_fin rfl
        · refine jev_ite.trans (jite_congr (fun _ => ?_) (fun _ => ?_))
          · refine (jev_blk 1 (pc' := 31) (L' := ([some (.ref 0), some (.int x1), some (.int x2)], [])) (S' := [.ref 0]) (h' := (jX f g n2 p pa s sa false rp t, z)) rfl).trans ?_
            exact jev_callb (nx := 32) (rest := []) rfl
          · exact jev_fin rfl
  · refine (jev_blk 1 (pc' := if u0 = 0 then 5 else 10) (L' := ([some (.ref 0), some (.int x1), some (.int x2)], [])) (S' := []) (h' := (jX f g n2 p pa s sa true rp t, z)) rfl).trans (jev_ite.trans (jite_congr (fun _ => ?_) (fun _ => ?_)))
    · exact jev_fin rfl
    · refine (jev_blk 2 (pc' := if x2 = 0 then 12 else if x2 = 1 then 18 else if x2 = 2 then 30 else 37) (L' := ([some (.ref 0), some (.int x1), some (.int x2)], [])) (S' := []) (h' := (jX f g n2 p pa s sa true rp t, z)) rfl).trans ?_
      refine jev_ite.trans (jite_congr (fun _ => ?_) (fun _ => ?_))
      · refine (jev_blk 4 (pc' := 16) (L' := ([some (.ref 0), some (.int x1), some (.int x2)], [])) (S' := [.int x1, .ref 50]) (h' := (jX f g n2 p pa s sa true rp t, z)) rfl).trans ?_
        refine (jev_grd (q := jout x1 30) (pc' := 17) (L' := ([some (.ref 0), some (.int x1), some (.int x2)], [])) (S' := [.int (sa 0 0 x1.toNatClampNeg)]) (h' := (jX f g n2 p pa s sa true rp t, z)) rfl).trans (jite_congr (fun _ => rfl) (fun _ => ?_))
        exact jev_fin rfl
      · refine jev_ite.trans (jite_congr (fun _ => ?_) (fun _ => ?_))
        · refine (jev_blk 6 (pc' := 24) (L' := ([some (.ref 0), some (.int x1), some (.int x2)], [])) (S' := [.int (s 0 1), .ref 51]) (h' := (jX f g n2 p pa s sa true rp t, z)) rfl).trans ?_
          refine (jev_grd (q := jout (s 0 1) 12) (pc' := 25) (L' := ([some (.ref 0), some (.int x1), some (.int x2)], [])) (S' := [.int (sa 0 1 (s 0 1).toNatClampNeg)]) (h' := (jX f g n2 p pa s sa true rp t, z)) rfl).trans (jite_congr (fun _ => rfl) (fun _ => ?_))
          refine (jev_blk 4 (pc' := 29) (L' := ([some (.ref 0), some (.int x1), some (.int x2)], [])) (S' := [.int (((sa 0 1 (s 0 1).toNatClampNeg) >>> (x1 &&& 31)) &&& 1)]) (h' := (jX f g n2 p pa s sa true rp t, z)) rfl).trans ?_
          exact jev_fin rfl
        · refine jev_ite.trans (jite_congr (fun _ => ?_) (fun _ => ?_))
          · refine (jev_blk 1 (pc' := 31) (L' := ([some (.ref 0), some (.int x1), some (.int x2)], [])) (S' := [.ref 0]) (h' := (jX f g n2 p pa s sa true rp t, z)) rfl).trans ?_
            exact jev_callb (nx := 32) (rest := []) rfl
          · exact jev_fin rfl
set_option maxRecDepth 20000 in
theorem E_c_cell_32 {D : Nat}  {x1 : Int32} {d2 : Option Value} {u0 : Int32} {f : Nat → Int32} {g : Nat → Nat → Int32} {n2 : Nat → Nat → Int64} {p : Nat → Nat → Int32} {pa : Nat → Nat → Nat → Int32} {s : Nat → Nat → Int32} {sa : Nat → Nat → Nat → Int32} {sw : Bool} {rp : Value} {t : List jE} {z : Nat × Nat × Nat × (Nat → Int32)}  : jev D 105 32 ([some (.ref 0), some (.int x1), d2], []) [.int u0] (jX f g n2 p pa s sa sw rp t, z) = some (.inl (some (.int ((u0 >>> (x1 &&& 31)) &&& 1))), (jX f g n2 p pa s sa sw rp t, z)) := by
  cases sw
  · refine (jev_blk 4 (pc' := 36) (L' := ([some (.ref 0), some (.int x1), d2], [])) (S' := [.int ((u0 >>> (x1 &&& 31)) &&& 1)]) (h' := (jX f g n2 p pa s sa false rp t, z)) rfl).trans ?_
    exact jev_fin rfl
  · refine (jev_blk 4 (pc' := 36) (L' := ([some (.ref 0), some (.int x1), d2], [])) (S' := [.int ((u0 >>> (x1 &&& 31)) &&& 1)]) (h' := (jX f g n2 p pa s sa true rp t, z)) rfl).trans ?_
    exact jev_fin rfl
set_option maxRecDepth 20000 in
theorem E_c_seenNow {D : Nat}   {f : Nat → Int32} {g : Nat → Nat → Int32} {n2 : Nat → Nat → Int64} {p : Nat → Nat → Int32} {pa : Nat → Nat → Nat → Int32} {s : Nat → Nat → Int32} {sa : Nat → Nat → Nat → Int32} {sw : Bool} {rp : Value} {t : List jE} {z : Nat × Nat × Nat × (Nat → Int32)}  : K_c_seenNow D f g n2 p pa s sa sw rp t z = K_c_seenNow_4 D 0 0 f g n2 p pa s sa sw rp t z := by
  cases sw
  · exact jev_blk 4 rfl
  · exact jev_blk 4 rfl
set_option maxRecDepth 20000 in
theorem L_c_seenNow_4 {D : Nat}  {x1 : Int32} {x2 : Int32} {f : Nat → Int32} {g : Nat → Nat → Int32} {n2 : Nat → Nat → Int64} {p : Nat → Nat → Int32} {pa : Nat → Nat → Nat → Int32} {s : Nat → Nat → Int32} {sa : Nat → Nat → Nat → Int32} {sw : Bool} {rp : Value} {t : List jE} {z : Nat × Nat × Nat × (Nat → Int32)}  : K_c_seenNow_4 D x1 x2 f g n2 p pa s sa sw rp t z = if x2 < (p (jq sw) 3) then (jbO (K_h_flapping D 0 x2 f g n2 p pa s sa sw rp t z) (jk D 106 15 ([some (.ref 0), some (.int x1), some (.int x2)], []) [])) else (some (.inl (some (.int x1)), (jX f g n2 p pa s sa sw rp t, z))) := by
  cases sw
  · refine (jev_blk 5 (pc' := if x2 < (p (jq false) 3) then 9 else 27) (L' := ([some (.ref 0), some (.int x1), some (.int x2)], [])) (S' := []) (h' := (jX f g n2 p pa s sa false rp t, z)) rfl).trans (jev_ite.trans (jite_congr (fun _ => ?_) (fun _ => ?_)))
    · refine (jev_blk 5 (pc' := 14) (L' := ([some (.ref 0), some (.int x1), some (.int x2)], [])) (S' := [.int x2, .ref 49, .ref 43]) (h' := (jX f g n2 p pa s sa false rp t, z)) rfl).trans ?_
      exact jev_callb (nx := 15) (rest := []) rfl
    · refine (jev_blk 1 (pc' := 28) (L' := ([some (.ref 0), some (.int x1), some (.int x2)], [])) (S' := [.int x1]) (h' := (jX f g n2 p pa s sa false rp t, z)) rfl).trans ?_
      exact jev_fin rfl
  · refine (jev_blk 5 (pc' := if x2 < (p (jq true) 3) then 9 else 27) (L' := ([some (.ref 0), some (.int x1), some (.int x2)], [])) (S' := []) (h' := (jX f g n2 p pa s sa true rp t, z)) rfl).trans (jev_ite.trans (jite_congr (fun _ => ?_) (fun _ => ?_)))
    · refine (jev_blk 5 (pc' := 14) (L' := ([some (.ref 0), some (.int x1), some (.int x2)], [])) (S' := [.int x2, .ref 49, .ref 43]) (h' := (jX f g n2 p pa s sa true rp t, z)) rfl).trans ?_
      exact jev_callb (nx := 15) (rest := []) rfl
    · refine (jev_blk 1 (pc' := 28) (L' := ([some (.ref 0), some (.int x1), some (.int x2)], [])) (S' := [.int x1]) (h' := (jX f g n2 p pa s sa true rp t, z)) rfl).trans ?_
      exact jev_fin rfl
set_option maxRecDepth 20000 in
theorem E_c_seenNow_15 {D : Nat}  {x1 : Int32} {x2 : Int32} {u0 : Int32} {f : Nat → Int32} {g : Nat → Nat → Int32} {n2 : Nat → Nat → Int64} {p : Nat → Nat → Int32} {pa : Nat → Nat → Nat → Int32} {s : Nat → Nat → Int32} {sa : Nat → Nat → Nat → Int32} {sw : Bool} {rp : Value} {t : List jE} {z : Nat × Nat × Nat × (Nat → Int32)}  : jev D 106 15 ([some (.ref 0), some (.int x1), some (.int x2)], []) [.int u0] (jX f g n2 p pa s sa sw rp t, z) = if u0 = 0 then (K_c_seenNow_25 D x1 x2 f g n2 p pa s sa sw rp t z) else (jbO (K_h_seenBy D 0 x2 f g n2 p pa s sa sw rp t z) (jk D 106 23 ([some (.ref 0), some (.int x1), some (.int x2)], []) [.int x1])) := by
  cases sw
  · refine (jev_blk 1 (pc' := if u0 = 0 then 25 else 16) (L' := ([some (.ref 0), some (.int x1), some (.int x2)], [])) (S' := []) (h' := (jX f g n2 p pa s sa false rp t, z)) rfl).trans (jev_ite.trans (jite_congr (fun _ => ?_) (fun _ => ?_)))
    · rfl
    · refine (jev_blk 6 (pc' := 22) (L' := ([some (.ref 0), some (.int x1), some (.int x2)], [])) (S' := [.int x2, .ref 49, .ref 43, .int x1]) (h' := (jX f g n2 p pa s sa false rp t, z)) rfl).trans ?_
      exact jev_callb (nx := 23) (rest := [.int x1]) rfl
  · refine (jev_blk 1 (pc' := if u0 = 0 then 25 else 16) (L' := ([some (.ref 0), some (.int x1), some (.int x2)], [])) (S' := []) (h' := (jX f g n2 p pa s sa true rp t, z)) rfl).trans (jev_ite.trans (jite_congr (fun _ => ?_) (fun _ => ?_)))
    · rfl
    · refine (jev_blk 6 (pc' := 22) (L' := ([some (.ref 0), some (.int x1), some (.int x2)], [])) (S' := [.int x2, .ref 49, .ref 43, .int x1]) (h' := (jX f g n2 p pa s sa true rp t, z)) rfl).trans ?_
      exact jev_callb (nx := 23) (rest := [.int x1]) rfl
set_option maxRecDepth 20000 in
theorem E_c_seenNow_25 {D : Nat}  {x1 : Int32} {x2 : Int32} {f : Nat → Int32} {g : Nat → Nat → Int32} {n2 : Nat → Nat → Int64} {p : Nat → Nat → Int32} {pa : Nat → Nat → Nat → Int32} {s : Nat → Nat → Int32} {sa : Nat → Nat → Nat → Int32} {sw : Bool} {rp : Value} {t : List jE} {z : Nat × Nat × Nat × (Nat → Int32)}  : K_c_seenNow_25 D x1 x2 f g n2 p pa s sa sw rp t z = K_c_seenNow_4 D x1 (x2 + 1) f g n2 p pa s sa sw rp t z := by
  cases sw
  · exact jev_blk 2 rfl
  · exact jev_blk 2 rfl
set_option maxRecDepth 20000 in
theorem E_c_seenNow_23 {D : Nat}  {d1 : Option Value} {x2 : Int32} {u0 : Int32} {u1 : Int32} {f : Nat → Int32} {g : Nat → Nat → Int32} {n2 : Nat → Nat → Int64} {p : Nat → Nat → Int32} {pa : Nat → Nat → Nat → Int32} {s : Nat → Nat → Int32} {sa : Nat → Nat → Nat → Int32} {sw : Bool} {rp : Value} {t : List jE} {z : Nat × Nat × Nat × (Nat → Int32)}  : jev D 106 23 ([some (.ref 0), d1, some (.int x2)], []) [.int u0, .int u1] (jX f g n2 p pa s sa sw rp t, z) = K_c_seenNow_25 D (u1 ||| u0) x2 f g n2 p pa s sa sw rp t z := by
  cases sw
  · exact jev_blk 2 rfl
  · exact jev_blk 2 rfl
set_option maxRecDepth 20000 in
theorem E_c_scare {D : Nat}  {a0 : Int32} {a1 : Int32} {f : Nat → Int32} {g : Nat → Nat → Int32} {n2 : Nat → Nat → Int64} {p : Nat → Nat → Int32} {pa : Nat → Nat → Nat → Int32} {s : Nat → Nat → Int32} {sa : Nat → Nat → Nat → Int32} {sw : Bool} {rp : Value} {t : List jE} {z : Nat × Nat × Nat × (Nat → Int32)}  : K_c_scare D a0 a1 f g n2 p pa s sa sw rp t z = jbO (K_p_hasScare D sw a0 f g n2 p pa s sa sw rp t z) (jk D 107 4 ([some (.ref 0), some (.int a0), some (.int a1)], []) []) := by
  cases sw
  · refine (jev_blk 3 (pc' := 3) (L' := ([some (.ref 0), some (.int a0), some (.int a1)], [])) (S' := [.int a0, .ref (jpl false)]) (h' := (jX f g n2 p pa s sa false rp t, z)) rfl).trans ?_
    exact jev_callb (nx := 4) (rest := []) rfl
  · refine (jev_blk 3 (pc' := 3) (L' := ([some (.ref 0), some (.int a0), some (.int a1)], [])) (S' := [.int a0, .ref (jpl true)]) (h' := (jX f g n2 p pa s sa true rp t, z)) rfl).trans ?_
    exact jev_callb (nx := 4) (rest := []) rfl
set_option maxRecDepth 20000 in
theorem E_c_scare_4 {D : Nat}  {x1 : Int32} {x2 : Int32} {u0 : Int32} {f : Nat → Int32} {g : Nat → Nat → Int32} {n2 : Nat → Nat → Int64} {p : Nat → Nat → Int32} {pa : Nat → Nat → Nat → Int32} {s : Nat → Nat → Int32} {sa : Nat → Nat → Nat → Int32} {sw : Bool} {rp : Value} {t : List jE} {z : Nat × Nat × Nat × (Nat → Int32)}  : jev D 107 4 ([some (.ref 0), some (.int x1), some (.int x2)], []) [.int u0] (jX f g n2 p pa s sa sw rp t, z) = if u0 = 0 then (some (.inl (some (.int (-1))), (jX f g n2 p pa s sa sw rp t, z))) else (if x2 = 0 then (if jout x1 6 then none else (some (.inl (some (.int (pa (jq sw) 2 x1.toNatClampNeg))), (jX f g n2 p pa s sa sw rp t, z)))) else (if x2 = 1 then (if jout x1 6 then none else (some (.inl (some (.int (pa (jq sw) 3 x1.toNatClampNeg))), (jX f g n2 p pa s sa sw rp t, z)))) else (if x2 = 2 then (if jout x1 6 then none else (some (.inl (some (.int (pa (jq sw) 4 x1.toNatClampNeg))), (jX f g n2 p pa s sa sw rp t, z)))) else (if x2 = 3 then (if jout x1 6 then none else (some (.inl (some (.int (sa 0 3 x1.toNatClampNeg))), (jX f g n2 p pa s sa sw rp t, z)))) else (if x2 = 4 then (if jout x1 6 then none else (some (.inl (some (.int (sa 0 2 x1.toNatClampNeg))), (jX f g n2 p pa s sa sw rp t, z)))) else (if x2 = 5 then (jbO (K_s_onStrike D 0 x1 f g n2 p pa s sa sw rp t z) (jk D 107 43 ([some (.ref 0), some (.int x1), some (.int x2)], []) [])) else (if x2 = 6 then (if jout x1 6 then none else (some (.inl (some (.int (sa 0 4 x1.toNatClampNeg))), (jX f g n2 p pa s sa sw rp t, z)))) else (if x2 = 7 then (jbO (K_h_flapping D 0 x1 f g n2 p pa s sa sw rp t z) (jk D 107 60 ([some (.ref 0), some (.int x1), some (.int x2)], []) [])) else (some (.inl (some (.int (-1))), (jX f g n2 p pa s sa sw rp t, z))))))))))) := by
  cases sw
  · refine (jev_blk 1 (pc' := if u0 = 0 then 5 else 7) (L' := ([some (.ref 0), some (.int x1), some (.int x2)], [])) (S' := []) (h' := (jX f g n2 p pa s sa false rp t, z)) rfl).trans (jev_ite.trans (jite_congr (fun _ => ?_) (fun _ => ?_)))
    · refine (jev_blk 1 (pc' := 6) (L' := ([some (.ref 0), some (.int x1), some (.int x2)], [])) (S' := [.int (-1)]) (h' := (jX f g n2 p pa s sa false rp t, z)) rfl).trans ?_
      exact jev_fin rfl
    · refine (jev_blk 2 (pc' := if x2 = 0 then 9 else if x2 = 1 then 15 else if x2 = 2 then 21 else if x2 = 3 then 27 else if x2 = 4 then 33 else if x2 = 5 then 39 else if x2 = 6 then 48 else if x2 = 7 then 54 else 61) (L' := ([some (.ref 0), some (.int x1), some (.int x2)], [])) (S' := []) (h' := (jX f g n2 p pa s sa false rp t, z)) rfl).trans ?_
      refine jev_ite.trans (jite_congr (fun _ => ?_) (fun _ => ?_))
      · refine (jev_blk 4 (pc' := 13) (L' := ([some (.ref 0), some (.int x1), some (.int x2)], [])) (S' := [.int x1, .ref ((jpl false) + 3)]) (h' := (jX f g n2 p pa s sa false rp t, z)) rfl).trans ?_
        refine (jev_grd (q := jout x1 6) (pc' := 14) (L' := ([some (.ref 0), some (.int x1), some (.int x2)], [])) (S' := [.int (pa (jq false) 2 x1.toNatClampNeg)]) (h' := (jX f g n2 p pa s sa false rp t, z)) rfl).trans (jite_congr (fun _ => rfl) (fun _ => ?_))
        exact jev_fin rfl
      · refine jev_ite.trans (jite_congr (fun _ => ?_) (fun _ => ?_))
        · refine (jev_blk 4 (pc' := 19) (L' := ([some (.ref 0), some (.int x1), some (.int x2)], [])) (S' := [.int x1, .ref ((jpl false) + 4)]) (h' := (jX f g n2 p pa s sa false rp t, z)) rfl).trans ?_
          refine (jev_grd (q := jout x1 6) (pc' := 20) (L' := ([some (.ref 0), some (.int x1), some (.int x2)], [])) (S' := [.int (pa (jq false) 3 x1.toNatClampNeg)]) (h' := (jX f g n2 p pa s sa false rp t, z)) rfl).trans (jite_congr (fun _ => rfl) (fun _ => ?_))
          exact jev_fin rfl
        · refine jev_ite.trans (jite_congr (fun _ => ?_) (fun _ => ?_))
          · refine (jev_blk 4 (pc' := 25) (L' := ([some (.ref 0), some (.int x1), some (.int x2)], [])) (S' := [.int x1, .ref ((jpl false) + 5)]) (h' := (jX f g n2 p pa s sa false rp t, z)) rfl).trans ?_
            refine (jev_grd (q := jout x1 6) (pc' := 26) (L' := ([some (.ref 0), some (.int x1), some (.int x2)], [])) (S' := [.int (pa (jq false) 4 x1.toNatClampNeg)]) (h' := (jX f g n2 p pa s sa false rp t, z)) rfl).trans (jite_congr (fun _ => rfl) (fun _ => ?_))
            exact jev_fin rfl
          · refine jev_ite.trans (jite_congr (fun _ => ?_) (fun _ => ?_))
            · refine (jev_blk 4 (pc' := 31) (L' := ([some (.ref 0), some (.int x1), some (.int x2)], [])) (S' := [.int x1, .ref 53]) (h' := (jX f g n2 p pa s sa false rp t, z)) rfl).trans ?_
              refine (jev_grd (q := jout x1 6) (pc' := 32) (L' := ([some (.ref 0), some (.int x1), some (.int x2)], [])) (S' := [.int (sa 0 3 x1.toNatClampNeg)]) (h' := (jX f g n2 p pa s sa false rp t, z)) rfl).trans (jite_congr (fun _ => rfl) (fun _ => ?_))
              exact jev_fin rfl
            · refine jev_ite.trans (jite_congr (fun _ => ?_) (fun _ => ?_))
              · refine (jev_blk 4 (pc' := 37) (L' := ([some (.ref 0), some (.int x1), some (.int x2)], [])) (S' := [.int x1, .ref 52]) (h' := (jX f g n2 p pa s sa false rp t, z)) rfl).trans ?_
                refine (jev_grd (q := jout x1 6) (pc' := 38) (L' := ([some (.ref 0), some (.int x1), some (.int x2)], [])) (S' := [.int (sa 0 2 x1.toNatClampNeg)]) (h' := (jX f g n2 p pa s sa false rp t, z)) rfl).trans (jite_congr (fun _ => rfl) (fun _ => ?_))
                exact jev_fin rfl
              · refine jev_ite.trans (jite_congr (fun _ => ?_) (fun _ => ?_))
                · refine (jev_blk 3 (pc' := 42) (L' := ([some (.ref 0), some (.int x1), some (.int x2)], [])) (S' := [.int x1, .ref 49]) (h' := (jX f g n2 p pa s sa false rp t, z)) rfl).trans ?_
                  exact jev_callb (nx := 43) (rest := []) rfl
                · refine jev_ite.trans (jite_congr (fun _ => ?_) (fun _ => ?_))
                  · refine (jev_blk 4 (pc' := 52) (L' := ([some (.ref 0), some (.int x1), some (.int x2)], [])) (S' := [.int x1, .ref 54]) (h' := (jX f g n2 p pa s sa false rp t, z)) rfl).trans ?_
                    refine (jev_grd (q := jout x1 6) (pc' := 53) (L' := ([some (.ref 0), some (.int x1), some (.int x2)], [])) (S' := [.int (sa 0 4 x1.toNatClampNeg)]) (h' := (jX f g n2 p pa s sa false rp t, z)) rfl).trans (jite_congr (fun _ => rfl) (fun _ => ?_))
                    exact jev_fin rfl
                  · refine jev_ite.trans (jite_congr (fun _ => ?_) (fun _ => ?_))
                    · refine (jev_blk 5 (pc' := 59) (L' := ([some (.ref 0), some (.int x1), some (.int x2)], [])) (S' := [.int x1, .ref 49, .ref 43]) (h' := (jX f g n2 p pa s sa false rp t, z)) rfl).trans ?_
                      exact jev_callb (nx := 60) (rest := []) rfl
                    · refine (jev_blk 1 (pc' := 62) (L' := ([some (.ref 0), some (.int x1), some (.int x2)], [])) (S' := [.int (-1)]) (h' := (jX f g n2 p pa s sa false rp t, z)) rfl).trans ?_
                      exact jev_fin rfl
  · refine (jev_blk 1 (pc' := if u0 = 0 then 5 else 7) (L' := ([some (.ref 0), some (.int x1), some (.int x2)], [])) (S' := []) (h' := (jX f g n2 p pa s sa true rp t, z)) rfl).trans (jev_ite.trans (jite_congr (fun _ => ?_) (fun _ => ?_)))
    · refine (jev_blk 1 (pc' := 6) (L' := ([some (.ref 0), some (.int x1), some (.int x2)], [])) (S' := [.int (-1)]) (h' := (jX f g n2 p pa s sa true rp t, z)) rfl).trans ?_
      exact jev_fin rfl
    · refine (jev_blk 2 (pc' := if x2 = 0 then 9 else if x2 = 1 then 15 else if x2 = 2 then 21 else if x2 = 3 then 27 else if x2 = 4 then 33 else if x2 = 5 then 39 else if x2 = 6 then 48 else if x2 = 7 then 54 else 61) (L' := ([some (.ref 0), some (.int x1), some (.int x2)], [])) (S' := []) (h' := (jX f g n2 p pa s sa true rp t, z)) rfl).trans ?_
      refine jev_ite.trans (jite_congr (fun _ => ?_) (fun _ => ?_))
      · refine (jev_blk 4 (pc' := 13) (L' := ([some (.ref 0), some (.int x1), some (.int x2)], [])) (S' := [.int x1, .ref ((jpl true) + 3)]) (h' := (jX f g n2 p pa s sa true rp t, z)) rfl).trans ?_
        refine (jev_grd (q := jout x1 6) (pc' := 14) (L' := ([some (.ref 0), some (.int x1), some (.int x2)], [])) (S' := [.int (pa (jq true) 2 x1.toNatClampNeg)]) (h' := (jX f g n2 p pa s sa true rp t, z)) rfl).trans (jite_congr (fun _ => rfl) (fun _ => ?_))
        exact jev_fin rfl
      · refine jev_ite.trans (jite_congr (fun _ => ?_) (fun _ => ?_))
        · refine (jev_blk 4 (pc' := 19) (L' := ([some (.ref 0), some (.int x1), some (.int x2)], [])) (S' := [.int x1, .ref ((jpl true) + 4)]) (h' := (jX f g n2 p pa s sa true rp t, z)) rfl).trans ?_
          refine (jev_grd (q := jout x1 6) (pc' := 20) (L' := ([some (.ref 0), some (.int x1), some (.int x2)], [])) (S' := [.int (pa (jq true) 3 x1.toNatClampNeg)]) (h' := (jX f g n2 p pa s sa true rp t, z)) rfl).trans (jite_congr (fun _ => rfl) (fun _ => ?_))
          exact jev_fin rfl
        · refine jev_ite.trans (jite_congr (fun _ => ?_) (fun _ => ?_))
          · refine (jev_blk 4 (pc' := 25) (L' := ([some (.ref 0), some (.int x1), some (.int x2)], [])) (S' := [.int x1, .ref ((jpl true) + 5)]) (h' := (jX f g n2 p pa s sa true rp t, z)) rfl).trans ?_
            refine (jev_grd (q := jout x1 6) (pc' := 26) (L' := ([some (.ref 0), some (.int x1), some (.int x2)], [])) (S' := [.int (pa (jq true) 4 x1.toNatClampNeg)]) (h' := (jX f g n2 p pa s sa true rp t, z)) rfl).trans (jite_congr (fun _ => rfl) (fun _ => ?_))
            exact jev_fin rfl
          · refine jev_ite.trans (jite_congr (fun _ => ?_) (fun _ => ?_))
            · refine (jev_blk 4 (pc' := 31) (L' := ([some (.ref 0), some (.int x1), some (.int x2)], [])) (S' := [.int x1, .ref 53]) (h' := (jX f g n2 p pa s sa true rp t, z)) rfl).trans ?_
              refine (jev_grd (q := jout x1 6) (pc' := 32) (L' := ([some (.ref 0), some (.int x1), some (.int x2)], [])) (S' := [.int (sa 0 3 x1.toNatClampNeg)]) (h' := (jX f g n2 p pa s sa true rp t, z)) rfl).trans (jite_congr (fun _ => rfl) (fun _ => ?_))
              exact jev_fin rfl
            · refine jev_ite.trans (jite_congr (fun _ => ?_) (fun _ => ?_))
              · refine (jev_blk 4 (pc' := 37) (L' := ([some (.ref 0), some (.int x1), some (.int x2)], [])) (S' := [.int x1, .ref 52]) (h' := (jX f g n2 p pa s sa true rp t, z)) rfl).trans ?_
                refine (jev_grd (q := jout x1 6) (pc' := 38) (L' := ([some (.ref 0), some (.int x1), some (.int x2)], [])) (S' := [.int (sa 0 2 x1.toNatClampNeg)]) (h' := (jX f g n2 p pa s sa true rp t, z)) rfl).trans (jite_congr (fun _ => rfl) (fun _ => ?_))
                exact jev_fin rfl
              · refine jev_ite.trans (jite_congr (fun _ => ?_) (fun _ => ?_))
                · refine (jev_blk 3 (pc' := 42) (L' := ([some (.ref 0), some (.int x1), some (.int x2)], [])) (S' := [.int x1, .ref 49]) (h' := (jX f g n2 p pa s sa true rp t, z)) rfl).trans ?_
                  exact jev_callb (nx := 43) (rest := []) rfl
                · refine jev_ite.trans (jite_congr (fun _ => ?_) (fun _ => ?_))
                  · refine (jev_blk 4 (pc' := 52) (L' := ([some (.ref 0), some (.int x1), some (.int x2)], [])) (S' := [.int x1, .ref 54]) (h' := (jX f g n2 p pa s sa true rp t, z)) rfl).trans ?_
                    refine (jev_grd (q := jout x1 6) (pc' := 53) (L' := ([some (.ref 0), some (.int x1), some (.int x2)], [])) (S' := [.int (sa 0 4 x1.toNatClampNeg)]) (h' := (jX f g n2 p pa s sa true rp t, z)) rfl).trans (jite_congr (fun _ => rfl) (fun _ => ?_))
                    exact jev_fin rfl
                  · refine jev_ite.trans (jite_congr (fun _ => ?_) (fun _ => ?_))
                    · refine (jev_blk 5 (pc' := 59) (L' := ([some (.ref 0), some (.int x1), some (.int x2)], [])) (S' := [.int x1, .ref 49, .ref 43]) (h' := (jX f g n2 p pa s sa true rp t, z)) rfl).trans ?_
                      exact jev_callb (nx := 60) (rest := []) rfl
                    · refine (jev_blk 1 (pc' := 62) (L' := ([some (.ref 0), some (.int x1), some (.int x2)], [])) (S' := [.int (-1)]) (h' := (jX f g n2 p pa s sa true rp t, z)) rfl).trans ?_
                      exact jev_fin rfl
set_option maxRecDepth 20000 in
theorem E_c_scare_43 {D : Nat}  {d1 : Option Value} {d2 : Option Value} {u0 : Int32} {f : Nat → Int32} {g : Nat → Nat → Int32} {n2 : Nat → Nat → Int64} {p : Nat → Nat → Int32} {pa : Nat → Nat → Nat → Int32} {s : Nat → Nat → Int32} {sa : Nat → Nat → Nat → Int32} {sw : Bool} {rp : Value} {t : List jE} {z : Nat × Nat × Nat × (Nat → Int32)}  : jev D 107 43 ([some (.ref 0), d1, d2], []) [.int u0] (jX f g n2 p pa s sa sw rp t, z) = if u0 = 0 then (some (.inl (some (.int 0)), (jX f g n2 p pa s sa sw rp t, z))) else (some (.inl (some (.int 1)), (jX f g n2 p pa s sa sw rp t, z))) := by
  cases sw
  · refine (jev_blk 1 (pc' := if u0 = 0 then 46 else 44) (L' := ([some (.ref 0), d1, d2], [])) (S' := []) (h' := (jX f g n2 p pa s sa false rp t, z)) rfl).trans (jev_ite.trans (jite_congr (fun _ => ?_) (fun _ => ?_)))
    · refine (jev_blk 1 (pc' := 47) (L' := ([some (.ref 0), d1, d2], [])) (S' := [.int 0]) (h' := (jX f g n2 p pa s sa false rp t, z)) rfl).trans ?_
      exact jev_fin rfl
    · refine (jev_blk 2 (pc' := 47) (L' := ([some (.ref 0), d1, d2], [])) (S' := [.int 1]) (h' := (jX f g n2 p pa s sa false rp t, z)) rfl).trans ?_
      exact jev_fin rfl
  · refine (jev_blk 1 (pc' := if u0 = 0 then 46 else 44) (L' := ([some (.ref 0), d1, d2], [])) (S' := []) (h' := (jX f g n2 p pa s sa true rp t, z)) rfl).trans (jev_ite.trans (jite_congr (fun _ => ?_) (fun _ => ?_)))
    · refine (jev_blk 1 (pc' := 47) (L' := ([some (.ref 0), d1, d2], [])) (S' := [.int 0]) (h' := (jX f g n2 p pa s sa true rp t, z)) rfl).trans ?_
      exact jev_fin rfl
    · refine (jev_blk 2 (pc' := 47) (L' := ([some (.ref 0), d1, d2], [])) (S' := [.int 1]) (h' := (jX f g n2 p pa s sa true rp t, z)) rfl).trans ?_
      exact jev_fin rfl
set_option maxRecDepth 20000 in
theorem E_c_scare_60 {D : Nat}  {d1 : Option Value} {d2 : Option Value} {u0 : Int32} {f : Nat → Int32} {g : Nat → Nat → Int32} {n2 : Nat → Nat → Int64} {p : Nat → Nat → Int32} {pa : Nat → Nat → Nat → Int32} {s : Nat → Nat → Int32} {sa : Nat → Nat → Nat → Int32} {sw : Bool} {rp : Value} {t : List jE} {z : Nat × Nat × Nat × (Nat → Int32)}  : jev D 107 60 ([some (.ref 0), d1, d2], []) [.int u0] (jX f g n2 p pa s sa sw rp t, z) = some (.inl (some (.int u0)), (jX f g n2 p pa s sa sw rp t, z)) := by
  cases sw
  · exact jev_fin rfl
  · exact jev_fin rfl
set_option maxRecDepth 20000 in
theorem E_c_wind {D : Nat}  {a0 : Int32} {f : Nat → Int32} {g : Nat → Nat → Int32} {n2 : Nat → Nat → Int64} {p : Nat → Nat → Int32} {pa : Nat → Nat → Nat → Int32} {s : Nat → Nat → Int32} {sa : Nat → Nat → Nat → Int32} {sw : Bool} {rp : Value} {t : List jE} {z : Nat × Nat × Nat × (Nat → Int32)}  : K_c_wind D a0 f g n2 p pa s sa sw rp t z = if a0 < 0 then (some (.inl (some (.int (-1))), (jX f g n2 p pa s sa sw rp t, z))) else (if 999 < a0 then (some (.inl (some (.int (-1))), (jX f g n2 p pa s sa sw rp t, z))) else (jbO (K_p_windOf D sw a0 f g n2 p pa s sa sw rp t z) (jk D 108 11 ([some (.ref 0), some (.int a0)], []) []))) := by
  cases sw
  · refine (jev_blk 2 (pc' := if a0 < 0 then 5 else 2) (L' := ([some (.ref 0), some (.int a0)], [])) (S' := []) (h' := (jX f g n2 p pa s sa false rp t, z)) rfl).trans (jev_ite.trans (jite_congr (fun _ => ?_) (fun _ => ?_)))
    · refine (jev_blk 2 (pc' := 11) (L' := ([some (.ref 0), some (.int a0)], [])) (S' := [.int (-1)]) (h' := (jX f g n2 p pa s sa false rp t, z)) rfl).trans ?_
      exact jev_fin rfl
    · refine (jev_blk 3 (pc' := if 999 < a0 then 5 else 7) (L' := ([some (.ref 0), some (.int a0)], [])) (S' := []) (h' := (jX f g n2 p pa s sa false rp t, z)) rfl).trans (jev_ite.trans (jite_congr (fun _ => ?_) (fun _ => ?_)))
      · refine (jev_blk 2 (pc' := 11) (L' := ([some (.ref 0), some (.int a0)], [])) (S' := [.int (-1)]) (h' := (jX f g n2 p pa s sa false rp t, z)) rfl).trans ?_
        exact jev_fin rfl
      · refine (jev_blk 3 (pc' := 10) (L' := ([some (.ref 0), some (.int a0)], [])) (S' := [.int a0, .ref (jpl false)]) (h' := (jX f g n2 p pa s sa false rp t, z)) rfl).trans ?_
        exact jev_callb (nx := 11) (rest := []) rfl
  · refine (jev_blk 2 (pc' := if a0 < 0 then 5 else 2) (L' := ([some (.ref 0), some (.int a0)], [])) (S' := []) (h' := (jX f g n2 p pa s sa true rp t, z)) rfl).trans (jev_ite.trans (jite_congr (fun _ => ?_) (fun _ => ?_)))
    · refine (jev_blk 2 (pc' := 11) (L' := ([some (.ref 0), some (.int a0)], [])) (S' := [.int (-1)]) (h' := (jX f g n2 p pa s sa true rp t, z)) rfl).trans ?_
      exact jev_fin rfl
    · refine (jev_blk 3 (pc' := if 999 < a0 then 5 else 7) (L' := ([some (.ref 0), some (.int a0)], [])) (S' := []) (h' := (jX f g n2 p pa s sa true rp t, z)) rfl).trans (jev_ite.trans (jite_congr (fun _ => ?_) (fun _ => ?_)))
      · refine (jev_blk 2 (pc' := 11) (L' := ([some (.ref 0), some (.int a0)], [])) (S' := [.int (-1)]) (h' := (jX f g n2 p pa s sa true rp t, z)) rfl).trans ?_
        exact jev_fin rfl
      · refine (jev_blk 3 (pc' := 10) (L' := ([some (.ref 0), some (.int a0)], [])) (S' := [.int a0, .ref (jpl true)]) (h' := (jX f g n2 p pa s sa true rp t, z)) rfl).trans ?_
        exact jev_callb (nx := 11) (rest := []) rfl
set_option maxRecDepth 20000 in
theorem E_c_wind_11 {D : Nat}  {d1 : Option Value} {u0 : Int32} {f : Nat → Int32} {g : Nat → Nat → Int32} {n2 : Nat → Nat → Int64} {p : Nat → Nat → Int32} {pa : Nat → Nat → Nat → Int32} {s : Nat → Nat → Int32} {sa : Nat → Nat → Nat → Int32} {sw : Bool} {rp : Value} {t : List jE} {z : Nat × Nat × Nat × (Nat → Int32)}  : jev D 108 11 ([some (.ref 0), d1], []) [.int u0] (jX f g n2 p pa s sa sw rp t, z) = some (.inl (some (.int u0)), (jX f g n2 p pa s sa sw rp t, z)) := by
  cases sw
  · exact jev_fin rfl
  · exact jev_fin rfl
set_option maxRecDepth 20000 in
theorem E_c_sees {D : Nat}  {a0 : Int32} {a1 : Int32} {f : Nat → Int32} {g : Nat → Nat → Int32} {n2 : Nat → Nat → Int64} {p : Nat → Nat → Int32} {pa : Nat → Nat → Nat → Int32} {s : Nat → Nat → Int32} {sa : Nat → Nat → Nat → Int32} {sw : Bool} {rp : Value} {t : List jE} {z : Nat × Nat × Nat × (Nat → Int32)}  : K_c_sees D a0 a1 f g n2 p pa s sa sw rp t z = jbO (K_p_hasScare D sw a0 f g n2 p pa s sa sw rp t z) (jk D 109 4 ([some (.ref 0), some (.int a0), some (.int a1)], []) []) := by
  cases sw
  · refine (jev_blk 3 (pc' := 3) (L' := ([some (.ref 0), some (.int a0), some (.int a1)], [])) (S' := [.int a0, .ref (jpl false)]) (h' := (jX f g n2 p pa s sa false rp t, z)) rfl).trans ?_
    exact jev_callb (nx := 4) (rest := []) rfl
  · refine (jev_blk 3 (pc' := 3) (L' := ([some (.ref 0), some (.int a0), some (.int a1)], [])) (S' := [.int a0, .ref (jpl true)]) (h' := (jX f g n2 p pa s sa true rp t, z)) rfl).trans ?_
    exact jev_callb (nx := 4) (rest := []) rfl
set_option maxRecDepth 20000 in
theorem E_c_sees_4 {D : Nat}  {x1 : Int32} {x2 : Int32} {u0 : Int32} {f : Nat → Int32} {g : Nat → Nat → Int32} {n2 : Nat → Nat → Int64} {p : Nat → Nat → Int32} {pa : Nat → Nat → Nat → Int32} {s : Nat → Nat → Int32} {sa : Nat → Nat → Nat → Int32} {sw : Bool} {rp : Value} {t : List jE} {z : Nat × Nat × Nat × (Nat → Int32)}  : jev D 109 4 ([some (.ref 0), some (.int x1), some (.int x2)], []) [.int u0] (jX f g n2 p pa s sa sw rp t, z) = if u0 = 0 then (some (.inl (some (.int (-1))), (jX f g n2 p pa s sa sw rp t, z))) else (jbO (K_p_hasCell D sw x2 f g n2 p pa s sa sw rp t z) (jk D 109 9 ([some (.ref 0), some (.int x1), some (.int x2)], []) [])) := by
  cases sw
  · refine (jev_blk 1 (pc' := if u0 = 0 then 10 else 5) (L' := ([some (.ref 0), some (.int x1), some (.int x2)], [])) (S' := []) (h' := (jX f g n2 p pa s sa false rp t, z)) rfl).trans (jev_ite.trans (jite_congr (fun _ => ?_) (fun _ => ?_)))
    · refine (jev_blk 1 (pc' := 11) (L' := ([some (.ref 0), some (.int x1), some (.int x2)], [])) (S' := [.int (-1)]) (h' := (jX f g n2 p pa s sa false rp t, z)) rfl).trans ?_
      exact jev_fin rfl
    · refine (jev_blk 3 (pc' := 8) (L' := ([some (.ref 0), some (.int x1), some (.int x2)], [])) (S' := [.int x2, .ref (jpl false)]) (h' := (jX f g n2 p pa s sa false rp t, z)) rfl).trans ?_
      exact jev_callb (nx := 9) (rest := []) rfl
  · refine (jev_blk 1 (pc' := if u0 = 0 then 10 else 5) (L' := ([some (.ref 0), some (.int x1), some (.int x2)], [])) (S' := []) (h' := (jX f g n2 p pa s sa true rp t, z)) rfl).trans (jev_ite.trans (jite_congr (fun _ => ?_) (fun _ => ?_)))
    · refine (jev_blk 1 (pc' := 11) (L' := ([some (.ref 0), some (.int x1), some (.int x2)], [])) (S' := [.int (-1)]) (h' := (jX f g n2 p pa s sa true rp t, z)) rfl).trans ?_
      exact jev_fin rfl
    · refine (jev_blk 3 (pc' := 8) (L' := ([some (.ref 0), some (.int x1), some (.int x2)], [])) (S' := [.int x2, .ref (jpl true)]) (h' := (jX f g n2 p pa s sa true rp t, z)) rfl).trans ?_
      exact jev_callb (nx := 9) (rest := []) rfl
set_option maxRecDepth 20000 in
theorem E_c_sees_9 {D : Nat}  {x1 : Int32} {x2 : Int32} {u0 : Int32} {f : Nat → Int32} {g : Nat → Nat → Int32} {n2 : Nat → Nat → Int64} {p : Nat → Nat → Int32} {pa : Nat → Nat → Nat → Int32} {s : Nat → Nat → Int32} {sa : Nat → Nat → Nat → Int32} {sw : Bool} {rp : Value} {t : List jE} {z : Nat × Nat × Nat × (Nat → Int32)}  : jev D 109 9 ([some (.ref 0), some (.int x1), some (.int x2)], []) [.int u0] (jX f g n2 p pa s sa sw rp t, z) = if u0 = 0 then (some (.inl (some (.int (-1))), (jX f g n2 p pa s sa sw rp t, z))) else (jbO (K_h_seenBy D 0 x1 f g n2 p pa s sa sw rp t z) (jk D 109 18 ([some (.ref 0), some (.int x1), some (.int x2)], []) [])) := by
  cases sw
  · refine (jev_blk 1 (pc' := if u0 = 0 then 10 else 12) (L' := ([some (.ref 0), some (.int x1), some (.int x2)], [])) (S' := []) (h' := (jX f g n2 p pa s sa false rp t, z)) rfl).trans (jev_ite.trans (jite_congr (fun _ => ?_) (fun _ => ?_)))
    · refine (jev_blk 1 (pc' := 11) (L' := ([some (.ref 0), some (.int x1), some (.int x2)], [])) (S' := [.int (-1)]) (h' := (jX f g n2 p pa s sa false rp t, z)) rfl).trans ?_
      exact jev_fin rfl
    · refine (jev_blk 5 (pc' := 17) (L' := ([some (.ref 0), some (.int x1), some (.int x2)], [])) (S' := [.int x1, .ref 49, .ref 43]) (h' := (jX f g n2 p pa s sa false rp t, z)) rfl).trans ?_
      exact jev_callb (nx := 18) (rest := []) rfl
  · refine (jev_blk 1 (pc' := if u0 = 0 then 10 else 12) (L' := ([some (.ref 0), some (.int x1), some (.int x2)], [])) (S' := []) (h' := (jX f g n2 p pa s sa true rp t, z)) rfl).trans (jev_ite.trans (jite_congr (fun _ => ?_) (fun _ => ?_)))
    · refine (jev_blk 1 (pc' := 11) (L' := ([some (.ref 0), some (.int x1), some (.int x2)], [])) (S' := [.int (-1)]) (h' := (jX f g n2 p pa s sa true rp t, z)) rfl).trans ?_
      exact jev_fin rfl
    · refine (jev_blk 5 (pc' := 17) (L' := ([some (.ref 0), some (.int x1), some (.int x2)], [])) (S' := [.int x1, .ref 49, .ref 43]) (h' := (jX f g n2 p pa s sa true rp t, z)) rfl).trans ?_
      exact jev_callb (nx := 18) (rest := []) rfl
set_option maxRecDepth 20000 in
theorem E_c_sees_18 {D : Nat}  {d1 : Option Value} {x2 : Int32} {u0 : Int32} {f : Nat → Int32} {g : Nat → Nat → Int32} {n2 : Nat → Nat → Int64} {p : Nat → Nat → Int32} {pa : Nat → Nat → Nat → Int32} {s : Nat → Nat → Int32} {sa : Nat → Nat → Nat → Int32} {sw : Bool} {rp : Value} {t : List jE} {z : Nat × Nat × Nat × (Nat → Int32)}  : jev D 109 18 ([some (.ref 0), d1, some (.int x2)], []) [.int u0] (jX f g n2 p pa s sa sw rp t, z) = some (.inl (some (.int ((u0 >>> (x2 &&& 31)) &&& 1))), (jX f g n2 p pa s sa sw rp t, z)) := by
  cases sw
  · refine (jev_blk 4 (pc' := 22) (L' := ([some (.ref 0), d1, some (.int x2)], [])) (S' := [.int ((u0 >>> (x2 &&& 31)) &&& 1)]) (h' := (jX f g n2 p pa s sa false rp t, z)) rfl).trans ?_
    exact jev_fin rfl
  · refine (jev_blk 4 (pc' := 22) (L' := ([some (.ref 0), d1, some (.int x2)], [])) (S' := [.int ((u0 >>> (x2 &&& 31)) &&& 1)]) (h' := (jX f g n2 p pa s sa true rp t, z)) rfl).trans ?_
    exact jev_fin rfl
set_option maxRecDepth 20000 in
theorem E_c_law {D : Nat}  {a0 : Int32} {a1 : Int32} {a2 : Int32} {f : Nat → Int32} {g : Nat → Nat → Int32} {n2 : Nat → Nat → Int64} {p : Nat → Nat → Int32} {pa : Nat → Nat → Nat → Int32} {s : Nat → Nat → Int32} {sa : Nat → Nat → Nat → Int32} {sw : Bool} {rp : Value} {t : List jE} {z : Nat × Nat × Nat × (Nat → Int32)}  : K_c_law D a0 a1 a2 f g n2 p pa s sa sw rp t z = if a0 = 0 then (jbO (K_p_hasScare D sw a1 f g n2 p pa s sa sw rp t z) (jk D 110 6 ([some (.ref 0), some (.int a0), some (.int a1), some (.int a2)], []) [])) else (K_c_law_20 D a0 a1 a2 f g n2 p pa s sa sw rp t z) := by
  cases sw
  · refine (jev_blk 2 (pc' := if a0 = 0 then 2 else 20) (L' := ([some (.ref 0), some (.int a0), some (.int a1), some (.int a2)], [])) (S' := []) (h' := (jX f g n2 p pa s sa false rp t, z)) rfl).trans (jev_ite.trans (jite_congr (fun _ => ?_) (fun _ => ?_)))
    · refine (jev_blk 3 (pc' := 5) (L' := ([some (.ref 0), some (.int a0), some (.int a1), some (.int a2)], [])) (S' := [.int a1, .ref (jpl false)]) (h' := (jX f g n2 p pa s sa false rp t, z)) rfl).trans ?_
      exact jev_callb (nx := 6) (rest := []) rfl
    · rfl
  · refine (jev_blk 2 (pc' := if a0 = 0 then 2 else 20) (L' := ([some (.ref 0), some (.int a0), some (.int a1), some (.int a2)], [])) (S' := []) (h' := (jX f g n2 p pa s sa true rp t, z)) rfl).trans (jev_ite.trans (jite_congr (fun _ => ?_) (fun _ => ?_)))
    · refine (jev_blk 3 (pc' := 5) (L' := ([some (.ref 0), some (.int a0), some (.int a1), some (.int a2)], [])) (S' := [.int a1, .ref (jpl true)]) (h' := (jX f g n2 p pa s sa true rp t, z)) rfl).trans ?_
      exact jev_callb (nx := 6) (rest := []) rfl
    · rfl
set_option maxRecDepth 20000 in
theorem E_c_law_20 {D : Nat}  {x1 : Int32} {x2 : Int32} {x3 : Int32} {f : Nat → Int32} {g : Nat → Nat → Int32} {n2 : Nat → Nat → Int64} {p : Nat → Nat → Int32} {pa : Nat → Nat → Nat → Int32} {s : Nat → Nat → Int32} {sa : Nat → Nat → Nat → Int32} {sw : Bool} {rp : Value} {t : List jE} {z : Nat × Nat × Nat × (Nat → Int32)}  : K_c_law_20 D x1 x2 x3 f g n2 p pa s sa sw rp t z = if x1 = 1 then (jbO (K_p_hasCell D sw x3 f g n2 p pa s sa sw rp t z) (jk D 110 27 ([some (.ref 0), some (.int x1), some (.int x2), some (.int x3)], []) [])) else (K_c_law_35 D x1 x2 (some (.int x3)) f g n2 p pa s sa sw rp t z) := by
  cases sw
  · refine (jev_blk 3 (pc' := if x1 = 1 then 23 else 35) (L' := ([some (.ref 0), some (.int x1), some (.int x2), some (.int x3)], [])) (S' := []) (h' := (jX f g n2 p pa s sa false rp t, z)) rfl).trans (jev_ite.trans (jite_congr (fun _ => ?_) (fun _ => ?_)))
    · refine (jev_blk 3 (pc' := 26) (L' := ([some (.ref 0), some (.int x1), some (.int x2), some (.int x3)], [])) (S' := [.int x3, .ref (jpl false)]) (h' := (jX f g n2 p pa s sa false rp t, z)) rfl).trans ?_
      exact jev_callb (nx := 27) (rest := []) rfl
    · rfl
  · refine (jev_blk 3 (pc' := if x1 = 1 then 23 else 35) (L' := ([some (.ref 0), some (.int x1), some (.int x2), some (.int x3)], [])) (S' := []) (h' := (jX f g n2 p pa s sa true rp t, z)) rfl).trans (jev_ite.trans (jite_congr (fun _ => ?_) (fun _ => ?_)))
    · refine (jev_blk 3 (pc' := 26) (L' := ([some (.ref 0), some (.int x1), some (.int x2), some (.int x3)], [])) (S' := [.int x3, .ref (jpl true)]) (h' := (jX f g n2 p pa s sa true rp t, z)) rfl).trans ?_
      exact jev_callb (nx := 27) (rest := []) rfl
    · rfl
set_option maxRecDepth 20000 in
theorem E_c_law_35 {D : Nat}  {x1 : Int32} {x2 : Int32} {d3 : Option Value} {f : Nat → Int32} {g : Nat → Nat → Int32} {n2 : Nat → Nat → Int64} {p : Nat → Nat → Int32} {pa : Nat → Nat → Nat → Int32} {s : Nat → Nat → Int32} {sa : Nat → Nat → Nat → Int32} {sw : Bool} {rp : Value} {t : List jE} {z : Nat × Nat × Nat × (Nat → Int32)}  : K_c_law_35 D x1 x2 d3 f g n2 p pa s sa sw rp t z = if x1 = 2 then (jbO (K_p_hasScare D sw x2 f g n2 p pa s sa sw rp t z) (jk D 110 42 ([some (.ref 0), some (.int x1), some (.int x2), d3], []) [])) else (some (.inl (some (.long (-9223372036854775808))), (jX f g n2 p pa s sa sw rp t, z))) := by
  cases sw
  · refine (jev_blk 3 (pc' := if x1 = 2 then 38 else 50) (L' := ([some (.ref 0), some (.int x1), some (.int x2), d3], [])) (S' := []) (h' := (jX f g n2 p pa s sa false rp t, z)) rfl).trans (jev_ite.trans (jite_congr (fun _ => ?_) (fun _ => ?_)))
    · refine (jev_blk 3 (pc' := 41) (L' := ([some (.ref 0), some (.int x1), some (.int x2), d3], [])) (S' := [.int x2, .ref (jpl false)]) (h' := (jX f g n2 p pa s sa false rp t, z)) rfl).trans ?_
      exact jev_callb (nx := 42) (rest := []) rfl
    · refine (jev_blk 1 (pc' := 51) (L' := ([some (.ref 0), some (.int x1), some (.int x2), d3], [])) (S' := [.long (-9223372036854775808)]) (h' := (jX f g n2 p pa s sa false rp t, z)) rfl).trans ?_
      exact jev_fin rfl
  · refine (jev_blk 3 (pc' := if x1 = 2 then 38 else 50) (L' := ([some (.ref 0), some (.int x1), some (.int x2), d3], [])) (S' := []) (h' := (jX f g n2 p pa s sa true rp t, z)) rfl).trans (jev_ite.trans (jite_congr (fun _ => ?_) (fun _ => ?_)))
    · refine (jev_blk 3 (pc' := 41) (L' := ([some (.ref 0), some (.int x1), some (.int x2), d3], [])) (S' := [.int x2, .ref (jpl true)]) (h' := (jX f g n2 p pa s sa true rp t, z)) rfl).trans ?_
      exact jev_callb (nx := 42) (rest := []) rfl
    · refine (jev_blk 1 (pc' := 51) (L' := ([some (.ref 0), some (.int x1), some (.int x2), d3], [])) (S' := [.long (-9223372036854775808)]) (h' := (jX f g n2 p pa s sa true rp t, z)) rfl).trans ?_
      exact jev_fin rfl
set_option maxRecDepth 20000 in
theorem E_c_law_6 {D : Nat}  {x1 : Int32} {x2 : Int32} {x3 : Int32} {u0 : Int32} {f : Nat → Int32} {g : Nat → Nat → Int32} {n2 : Nat → Nat → Int64} {p : Nat → Nat → Int32} {pa : Nat → Nat → Nat → Int32} {s : Nat → Nat → Int32} {sa : Nat → Nat → Nat → Int32} {sw : Bool} {rp : Value} {t : List jE} {z : Nat × Nat × Nat × (Nat → Int32)}  : jev D 110 6 ([some (.ref 0), some (.int x1), some (.int x2), some (.int x3)], []) [.int u0] (jX f g n2 p pa s sa sw rp t, z) = if u0 = 0 then (K_c_law_20 D x1 x2 x3 f g n2 p pa s sa sw rp t z) else (jbO (K_p_hasCell D sw x3 f g n2 p pa s sa sw rp t z) (jk D 110 11 ([some (.ref 0), some (.int x1), some (.int x2), some (.int x3)], []) [])) := by
  cases sw
  · refine (jev_blk 1 (pc' := if u0 = 0 then 20 else 7) (L' := ([some (.ref 0), some (.int x1), some (.int x2), some (.int x3)], [])) (S' := []) (h' := (jX f g n2 p pa s sa false rp t, z)) rfl).trans (jev_ite.trans (jite_congr (fun _ => ?_) (fun _ => ?_)))
    · rfl
    · refine (jev_blk 3 (pc' := 10) (L' := ([some (.ref 0), some (.int x1), some (.int x2), some (.int x3)], [])) (S' := [.int x3, .ref (jpl false)]) (h' := (jX f g n2 p pa s sa false rp t, z)) rfl).trans ?_
      exact jev_callb (nx := 11) (rest := []) rfl
  · refine (jev_blk 1 (pc' := if u0 = 0 then 20 else 7) (L' := ([some (.ref 0), some (.int x1), some (.int x2), some (.int x3)], [])) (S' := []) (h' := (jX f g n2 p pa s sa true rp t, z)) rfl).trans (jev_ite.trans (jite_congr (fun _ => ?_) (fun _ => ?_)))
    · rfl
    · refine (jev_blk 3 (pc' := 10) (L' := ([some (.ref 0), some (.int x1), some (.int x2), some (.int x3)], [])) (S' := [.int x3, .ref (jpl true)]) (h' := (jX f g n2 p pa s sa true rp t, z)) rfl).trans ?_
      exact jev_callb (nx := 11) (rest := []) rfl
set_option maxRecDepth 20000 in
theorem E_c_law_27 {D : Nat}  {x1 : Int32} {x2 : Int32} {x3 : Int32} {u0 : Int32} {f : Nat → Int32} {g : Nat → Nat → Int32} {n2 : Nat → Nat → Int64} {p : Nat → Nat → Int32} {pa : Nat → Nat → Nat → Int32} {s : Nat → Nat → Int32} {sa : Nat → Nat → Nat → Int32} {sw : Bool} {rp : Value} {t : List jE} {z : Nat × Nat × Nat × (Nat → Int32)}  : jev D 110 27 ([some (.ref 0), some (.int x1), some (.int x2), some (.int x3)], []) [.int u0] (jX f g n2 p pa s sa sw rp t, z) = if u0 = 0 then (K_c_law_35 D x1 x2 (some (.int x3)) f g n2 p pa s sa sw rp t z) else (jbO (K_h_eatWorth D 0 x3 f g n2 p pa s sa sw rp t z) (jk D 110 34 ([some (.ref 0), some (.int x1), some (.int x2), some (.int x3)], []) [])) := by
  cases sw
  · refine (jev_blk 1 (pc' := if u0 = 0 then 35 else 28) (L' := ([some (.ref 0), some (.int x1), some (.int x2), some (.int x3)], [])) (S' := []) (h' := (jX f g n2 p pa s sa false rp t, z)) rfl).trans (jev_ite.trans (jite_congr (fun _ => ?_) (fun _ => ?_)))
    · rfl
    · refine (jev_blk 5 (pc' := 33) (L' := ([some (.ref 0), some (.int x1), some (.int x2), some (.int x3)], [])) (S' := [.int x3, .ref 49, .ref 43]) (h' := (jX f g n2 p pa s sa false rp t, z)) rfl).trans ?_
      exact jev_callb (nx := 34) (rest := []) rfl
  · refine (jev_blk 1 (pc' := if u0 = 0 then 35 else 28) (L' := ([some (.ref 0), some (.int x1), some (.int x2), some (.int x3)], [])) (S' := []) (h' := (jX f g n2 p pa s sa true rp t, z)) rfl).trans (jev_ite.trans (jite_congr (fun _ => ?_) (fun _ => ?_)))
    · rfl
    · refine (jev_blk 5 (pc' := 33) (L' := ([some (.ref 0), some (.int x1), some (.int x2), some (.int x3)], [])) (S' := [.int x3, .ref 49, .ref 43]) (h' := (jX f g n2 p pa s sa true rp t, z)) rfl).trans ?_
      exact jev_callb (nx := 34) (rest := []) rfl
