-- EQUATIONS: one a block; E_ unfolds, L_ a loop's head
set_option maxRecDepth 20000 in
theorem E_c_keeping_68 {D : Nat}  {x1 : Int32} {x2 : Int32} {x3 : Int32} {x4 : Int32} {x5 : Int32} {x6 : Int32} {x7 : Int32} {f : Nat → Int32} {g : Nat → Nat → Int32} {n2 : Nat → Nat → Int64} {p : Nat → Nat → Int32} {pa : Nat → Nat → Nat → Int32} {s : Nat → Nat → Int32} {sa : Nat → Nat → Nat → Int32} {sw : Bool} {rp : Value} {t : List jE} {z : Nat × Nat × Nat × (Nat → Int32)}  : jev D 117 68 ([some (.ref 0), some (.int x1), some (.int x2), some (.int x3), some (.int x4), some (.int x5), some (.int x6), some (.int x7)], []) [] (jX f g n2 p pa s sa sw rp t, z) = if (s 2 3) < x4 then (K_c_keeping_79 D x1 x2 x3 (s 2 3) x7 x6 x7 f g n2 p pa s sa sw rp t z) else (K_c_keeping_79 D x1 x2 x3 x4 x5 x6 x7 f g n2 p pa s sa sw rp t z) := by
  cases sw
  · refine (jev_blk 5 (pc' := if (s 2 3) < x4 then 73 else 79) (L' := ([some (.ref 0), some (.int x1), some (.int x2), some (.int x3), some (.int x4), some (.int x5), some (.int x6), some (.int x7)], [])) (S' := []) (h' := (jX f g n2 p pa s sa false rp t, z)) rfl).trans (jev_ite.trans (jite_congr (fun _ => ?_) (fun _ => ?_)))
    · exact jev_blk 6 rfl
    · rfl
  · refine (jev_blk 5 (pc' := if (s 2 3) < x4 then 73 else 79) (L' := ([some (.ref 0), some (.int x1), some (.int x2), some (.int x3), some (.int x4), some (.int x5), some (.int x6), some (.int x7)], [])) (S' := []) (h' := (jX f g n2 p pa s sa true rp t, z)) rfl).trans (jev_ite.trans (jite_congr (fun _ => ?_) (fun _ => ?_)))
    · exact jev_blk 6 rfl
    · rfl
set_option maxRecDepth 20000 in
theorem E_c_allSeen {D : Nat}   {f : Nat → Int32} {g : Nat → Nat → Int32} {n2 : Nat → Nat → Int64} {p : Nat → Nat → Int32} {pa : Nat → Nat → Nat → Int32} {s : Nat → Nat → Int32} {sa : Nat → Nat → Nat → Int32} {sw : Bool} {rp : Value} {t : List jE} {z : Nat × Nat × Nat × (Nat → Int32)}  : K_c_allSeen D f g n2 p pa s sa sw rp t z = jbO (K_c_look D f g n2 p pa s sa sw rp t z) (jk D 118 2 ([some (.ref 0), none, none, none, none, none], []) []) := by
  cases sw
  · refine (jev_blk 1 (pc' := 1) (L' := ([some (.ref 0), none, none, none, none, none], [])) (S' := [.ref 0]) (h' := (jX f g n2 p pa s sa false rp t, z)) rfl).trans ?_
    exact jev_callb (nx := 2) (rest := []) rfl
  · refine (jev_blk 1 (pc' := 1) (L' := ([some (.ref 0), none, none, none, none, none], [])) (S' := [.ref 0]) (h' := (jX f g n2 p pa s sa true rp t, z)) rfl).trans ?_
    exact jev_callb (nx := 2) (rest := []) rfl
set_option maxRecDepth 20000 in
theorem E_c_allSeen_2 {D : Nat}  {d1 : Option Value} {d2 : Option Value} {d3 : Option Value} {d4 : Option Value} {d5 : Option Value} {f : Nat → Int32} {g : Nat → Nat → Int32} {n2 : Nat → Nat → Int64} {p : Nat → Nat → Int32} {pa : Nat → Nat → Nat → Int32} {s : Nat → Nat → Int32} {sa : Nat → Nat → Nat → Int32} {sw : Bool} {rp : Value} {t : List jE} {z : Nat × Nat × Nat × (Nat → Int32)}  : jev D 118 2 ([some (.ref 0), d1, d2, d3, d4, d5], []) [] (jX f g n2 p pa s sa sw rp t, z) = jbO (K_s_ripe D 0 f g n2 p pa s sa sw rp t z) (jk D 118 5 ([some (.ref 0), d1, d2, d3, d4, d5], []) []) := by
  cases sw
  · refine (jev_blk 2 (pc' := 4) (L' := ([some (.ref 0), d1, d2, d3, d4, d5], [])) (S' := [.ref 49]) (h' := (jX f g n2 p pa s sa false rp t, z)) rfl).trans ?_
    exact jev_callb (nx := 5) (rest := []) rfl
  · refine (jev_blk 2 (pc' := 4) (L' := ([some (.ref 0), d1, d2, d3, d4, d5], [])) (S' := [.ref 49]) (h' := (jX f g n2 p pa s sa true rp t, z)) rfl).trans ?_
    exact jev_callb (nx := 5) (rest := []) rfl
set_option maxRecDepth 20000 in
theorem E_c_allSeen_5 {D : Nat}  {d1 : Option Value} {d2 : Option Value} {d3 : Option Value} {d4 : Option Value} {d5 : Option Value} {u0 : Int32} {f : Nat → Int32} {g : Nat → Nat → Int32} {n2 : Nat → Nat → Int64} {p : Nat → Nat → Int32} {pa : Nat → Nat → Nat → Int32} {s : Nat → Nat → Int32} {sa : Nat → Nat → Nat → Int32} {sw : Bool} {rp : Value} {t : List jE} {z : Nat × Nat × Nat × (Nat → Int32)}  : jev D 118 5 ([some (.ref 0), d1, d2, d3, d4, d5], []) [.int u0] (jX f g n2 p pa s sa sw rp t, z) = K_c_allSeen_10 D u0 (-2) 0 d4 d5 f g n2 p pa s sa sw rp t z := by
  cases sw
  · exact jev_blk 5 rfl
  · exact jev_blk 5 rfl
set_option maxRecDepth 20000 in
theorem L_c_allSeen_10 {D : Nat}  {x1 : Int32} {x2 : Int32} {x3 : Int32} {d4 : Option Value} {d5 : Option Value} {f : Nat → Int32} {g : Nat → Nat → Int32} {n2 : Nat → Nat → Int64} {p : Nat → Nat → Int32} {pa : Nat → Nat → Nat → Int32} {s : Nat → Nat → Int32} {sa : Nat → Nat → Nat → Int32} {sw : Bool} {rp : Value} {t : List jE} {z : Nat × Nat × Nat × (Nat → Int32)}  : K_c_allSeen_10 D x1 x2 x3 d4 d5 f g n2 p pa s sa sw rp t z = if x3 < (1 <<< ((p (jq sw) 3) &&& 31)) then (K_c_allSeen_21 D x1 x2 x3 0 0 f g n2 p pa s sa sw rp t z) else (some (.inl (some (.int x2)), (jX f g n2 p pa s sa sw rp t, z))) := by
  cases sw
  · refine (jev_blk 7 (pc' := if x3 < (1 <<< ((p (jq false) 3) &&& 31)) then 17 else 65) (L' := ([some (.ref 0), some (.int x1), some (.int x2), some (.int x3), d4, d5], [])) (S' := []) (h' := (jX f g n2 p pa s sa false rp t, z)) rfl).trans (jev_ite.trans (jite_congr (fun _ => ?_) (fun _ => ?_)))
    · exact jev_blk 4 rfl
    · refine (jev_blk 1 (pc' := 66) (L' := ([some (.ref 0), some (.int x1), some (.int x2), some (.int x3), d4, d5], [])) (S' := [.int x2]) (h' := (jX f g n2 p pa s sa false rp t, z)) rfl).trans ?_
      exact jev_fin rfl
  · refine (jev_blk 7 (pc' := if x3 < (1 <<< ((p (jq true) 3) &&& 31)) then 17 else 65) (L' := ([some (.ref 0), some (.int x1), some (.int x2), some (.int x3), d4, d5], [])) (S' := []) (h' := (jX f g n2 p pa s sa true rp t, z)) rfl).trans (jev_ite.trans (jite_congr (fun _ => ?_) (fun _ => ?_)))
    · exact jev_blk 4 rfl
    · refine (jev_blk 1 (pc' := 66) (L' := ([some (.ref 0), some (.int x1), some (.int x2), some (.int x3), d4, d5], [])) (S' := [.int x2]) (h' := (jX f g n2 p pa s sa true rp t, z)) rfl).trans ?_
      exact jev_fin rfl
set_option maxRecDepth 20000 in
theorem L_c_allSeen_21 {D : Nat}  {x1 : Int32} {x2 : Int32} {x3 : Int32} {x4 : Int32} {x5 : Int32} {f : Nat → Int32} {g : Nat → Nat → Int32} {n2 : Nat → Nat → Int64} {p : Nat → Nat → Int32} {pa : Nat → Nat → Nat → Int32} {s : Nat → Nat → Int32} {sa : Nat → Nat → Nat → Int32} {sw : Bool} {rp : Value} {t : List jE} {z : Nat × Nat × Nat × (Nat → Int32)}  : K_c_allSeen_21 D x1 x2 x3 x4 x5 f g n2 p pa s sa sw rp t z = if x5 < (p (jq sw) 3) then (if ((x3 >>> (x5 &&& 31)) &&& 1) = 0 then (K_c_allSeen_39 D x1 x2 x3 x4 x5 f g n2 p pa s sa sw rp t z) else (if jout x5 6 then none else (K_c_allSeen_39 D x1 x2 x3 (x4 ||| (g 12 x5.toNatClampNeg)) x5 f g n2 p pa s sa sw rp t z))) else (if x2 = (-2) then (K_c_allSeen_49 D x1 x2 x3 x4 (some (.int x5)) f g n2 p pa s sa sw rp t z) else (jbO (K_j_bitCount D x3 f g n2 p pa s sa sw rp t z) (jk D 118 46 ([some (.ref 0), some (.int x1), some (.int x2), some (.int x3), some (.int x4), some (.int x5)], []) []))) := by
  cases sw
  · refine (jev_blk 5 (pc' := if x5 < (p (jq false) 3) then 26 else 41) (L' := ([some (.ref 0), some (.int x1), some (.int x2), some (.int x3), some (.int x4), some (.int x5)], [])) (S' := []) (h' := (jX f g n2 p pa s sa false rp t, z)) rfl).trans (jev_ite.trans (jite_congr (fun _ => ?_) (fun _ => ?_)))
    · refine (jev_blk 6 (pc' := if ((x3 >>> (x5 &&& 31)) &&& 1) = 0 then 39 else 32) (L' := ([some (.ref 0), some (.int x1), some (.int x2), some (.int x3), some (.int x4), some (.int x5)], [])) (S' := []) (h' := (jX f g n2 p pa s sa false rp t, z)) rfl).trans (jev_ite.trans (jite_congr (fun _ => ?_) (fun _ => ?_)))
      · rfl
      · refine (jev_blk 4 (pc' := 36) (L' := ([some (.ref 0), some (.int x1), some (.int x2), some (.int x3), some (.int x4), some (.int x5)], [])) (S' := [.int x5, .ref 78, .int x4]) (h' := (jX f g n2 p pa s sa false rp t, z)) rfl).trans ?_
        refine (jev_grd (q := jout x5 6) (pc' := 37) (L' := ([some (.ref 0), some (.int x1), some (.int x2), some (.int x3), some (.int x4), some (.int x5)], [])) (S' := [.int (g 12 x5.toNatClampNeg), .int x4]) (h' := (jX f g n2 p pa s sa false rp t, z)) rfl).trans (jite_congr (fun _ => rfl) (fun _ => ?_))
        exact jev_blk 2 rfl
    · refine (jev_blk 3 (pc' := if x2 = (-2) then 49 else 44) (L' := ([some (.ref 0), some (.int x1), some (.int x2), some (.int x3), some (.int x4), some (.int x5)], [])) (S' := []) (h' := (jX f g n2 p pa s sa false rp t, z)) rfl).trans (jev_ite.trans (jite_congr (fun _ => ?_) (fun _ => ?_)))
      · rfl
      · refine (jev_blk 1 (pc' := 45) (L' := ([some (.ref 0), some (.int x1), some (.int x2), some (.int x3), some (.int x4), some (.int x5)], [])) (S' := [.int x3]) (h' := (jX f g n2 p pa s sa false rp t, z)) rfl).trans ?_
        exact jev_callb (nx := 46) (rest := []) rfl
  · refine (jev_blk 5 (pc' := if x5 < (p (jq true) 3) then 26 else 41) (L' := ([some (.ref 0), some (.int x1), some (.int x2), some (.int x3), some (.int x4), some (.int x5)], [])) (S' := []) (h' := (jX f g n2 p pa s sa true rp t, z)) rfl).trans (jev_ite.trans (jite_congr (fun _ => ?_) (fun _ => ?_)))
    · refine (jev_blk 6 (pc' := if ((x3 >>> (x5 &&& 31)) &&& 1) = 0 then 39 else 32) (L' := ([some (.ref 0), some (.int x1), some (.int x2), some (.int x3), some (.int x4), some (.int x5)], [])) (S' := []) (h' := (jX f g n2 p pa s sa true rp t, z)) rfl).trans (jev_ite.trans (jite_congr (fun _ => ?_) (fun _ => ?_)))
      · rfl
      · refine (jev_blk 4 (pc' := 36) (L' := ([some (.ref 0), some (.int x1), some (.int x2), some (.int x3), some (.int x4), some (.int x5)], [])) (S' := [.int x5, .ref 78, .int x4]) (h' := (jX f g n2 p pa s sa true rp t, z)) rfl).trans ?_
        refine (jev_grd (q := jout x5 6) (pc' := 37) (L' := ([some (.ref 0), some (.int x1), some (.int x2), some (.int x3), some (.int x4), some (.int x5)], [])) (S' := [.int (g 12 x5.toNatClampNeg), .int x4]) (h' := (jX f g n2 p pa s sa true rp t, z)) rfl).trans (jite_congr (fun _ => rfl) (fun _ => ?_))
        exact jev_blk 2 rfl
    · refine (jev_blk 3 (pc' := if x2 = (-2) then 49 else 44) (L' := ([some (.ref 0), some (.int x1), some (.int x2), some (.int x3), some (.int x4), some (.int x5)], [])) (S' := []) (h' := (jX f g n2 p pa s sa true rp t, z)) rfl).trans (jev_ite.trans (jite_congr (fun _ => ?_) (fun _ => ?_)))
      · rfl
      · refine (jev_blk 1 (pc' := 45) (L' := ([some (.ref 0), some (.int x1), some (.int x2), some (.int x3), some (.int x4), some (.int x5)], [])) (S' := [.int x3]) (h' := (jX f g n2 p pa s sa true rp t, z)) rfl).trans ?_
        exact jev_callb (nx := 46) (rest := []) rfl
set_option maxRecDepth 20000 in
theorem E_c_allSeen_39 {D : Nat}  {x1 : Int32} {x2 : Int32} {x3 : Int32} {x4 : Int32} {x5 : Int32} {f : Nat → Int32} {g : Nat → Nat → Int32} {n2 : Nat → Nat → Int64} {p : Nat → Nat → Int32} {pa : Nat → Nat → Nat → Int32} {s : Nat → Nat → Int32} {sa : Nat → Nat → Nat → Int32} {sw : Bool} {rp : Value} {t : List jE} {z : Nat × Nat × Nat × (Nat → Int32)}  : K_c_allSeen_39 D x1 x2 x3 x4 x5 f g n2 p pa s sa sw rp t z = K_c_allSeen_21 D x1 x2 x3 x4 (x5 + 1) f g n2 p pa s sa sw rp t z := by
  cases sw
  · exact jev_blk 2 rfl
  · exact jev_blk 2 rfl
set_option maxRecDepth 20000 in
theorem E_c_allSeen_49 {D : Nat}  {x1 : Int32} {x2 : Int32} {x3 : Int32} {x4 : Int32} {d5 : Option Value} {f : Nat → Int32} {g : Nat → Nat → Int32} {n2 : Nat → Nat → Int64} {p : Nat → Nat → Int32} {pa : Nat → Nat → Nat → Int32} {s : Nat → Nat → Int32} {sa : Nat → Nat → Nat → Int32} {sw : Bool} {rp : Value} {t : List jE} {z : Nat × Nat × Nat × (Nat → Int32)}  : K_c_allSeen_49 D x1 x2 x3 x4 d5 f g n2 p pa s sa sw rp t z = K_c_allSeen_52 D x1 x2 x3 x4 d5 1 f g n2 p pa s sa sw rp t z := by
  cases sw
  · exact jev_blk 2 rfl
  · exact jev_blk 2 rfl
set_option maxRecDepth 20000 in
theorem E_c_allSeen_52 {D : Nat}  {x1 : Int32} {x2 : Int32} {x3 : Int32} {x4 : Int32} {d5 : Option Value} {u0 : Int32} {f : Nat → Int32} {g : Nat → Nat → Int32} {n2 : Nat → Nat → Int64} {p : Nat → Nat → Int32} {pa : Nat → Nat → Nat → Int32} {s : Nat → Nat → Int32} {sa : Nat → Nat → Nat → Int32} {sw : Bool} {rp : Value} {t : List jE} {z : Nat × Nat × Nat × (Nat → Int32)}  : K_c_allSeen_52 D x1 x2 x3 x4 d5 u0 f g n2 p pa s sa sw rp t z = if (x1 &&& (x4 ^^^ (-1))) = 0 then (if u0 = 0 then (K_c_allSeen_63 D x1 x2 x3 (some (.int x4)) (some (.int u0)) f g n2 p pa s sa sw rp t z) else (K_c_allSeen_63 D x1 x3 x3 (some (.int x4)) (some (.int u0)) f g n2 p pa s sa sw rp t z)) else (K_c_allSeen_63 D x1 x2 x3 (some (.int x4)) (some (.int u0)) f g n2 p pa s sa sw rp t z) := by
  cases sw
  · refine (jev_blk 7 (pc' := if (x1 &&& (x4 ^^^ (-1))) = 0 then 59 else 63) (L' := ([some (.ref 0), some (.int x1), some (.int x2), some (.int x3), some (.int x4), some (.int u0)], [])) (S' := []) (h' := (jX f g n2 p pa s sa false rp t, z)) rfl).trans (jev_ite.trans (jite_congr (fun _ => ?_) (fun _ => ?_)))
    · refine (jev_blk 2 (pc' := if u0 = 0 then 63 else 61) (L' := ([some (.ref 0), some (.int x1), some (.int x2), some (.int x3), some (.int x4), some (.int u0)], [])) (S' := []) (h' := (jX f g n2 p pa s sa false rp t, z)) rfl).trans (jev_ite.trans (jite_congr (fun _ => ?_) (fun _ => ?_)))
      · rfl
      · exact jev_blk 2 rfl
    · rfl
  · refine (jev_blk 7 (pc' := if (x1 &&& (x4 ^^^ (-1))) = 0 then 59 else 63) (L' := ([some (.ref 0), some (.int x1), some (.int x2), some (.int x3), some (.int x4), some (.int u0)], [])) (S' := []) (h' := (jX f g n2 p pa s sa true rp t, z)) rfl).trans (jev_ite.trans (jite_congr (fun _ => ?_) (fun _ => ?_)))
    · refine (jev_blk 2 (pc' := if u0 = 0 then 63 else 61) (L' := ([some (.ref 0), some (.int x1), some (.int x2), some (.int x3), some (.int x4), some (.int u0)], [])) (S' := []) (h' := (jX f g n2 p pa s sa true rp t, z)) rfl).trans (jev_ite.trans (jite_congr (fun _ => ?_) (fun _ => ?_)))
      · rfl
      · exact jev_blk 2 rfl
    · rfl
set_option maxRecDepth 20000 in
theorem E_c_allSeen_63 {D : Nat}  {x1 : Int32} {x2 : Int32} {x3 : Int32} {d4 : Option Value} {d5 : Option Value} {f : Nat → Int32} {g : Nat → Nat → Int32} {n2 : Nat → Nat → Int64} {p : Nat → Nat → Int32} {pa : Nat → Nat → Nat → Int32} {s : Nat → Nat → Int32} {sa : Nat → Nat → Nat → Int32} {sw : Bool} {rp : Value} {t : List jE} {z : Nat × Nat × Nat × (Nat → Int32)}  : K_c_allSeen_63 D x1 x2 x3 d4 d5 f g n2 p pa s sa sw rp t z = K_c_allSeen_10 D x1 x2 (x3 + 1) d4 d5 f g n2 p pa s sa sw rp t z := by
  cases sw
  · exact jev_blk 2 rfl
  · exact jev_blk 2 rfl
set_option maxRecDepth 20000 in
theorem E_c_allSeen_46 {D : Nat}  {x1 : Int32} {x2 : Int32} {x3 : Int32} {x4 : Int32} {d5 : Option Value} {u0 : Int32} {f : Nat → Int32} {g : Nat → Nat → Int32} {n2 : Nat → Nat → Int64} {p : Nat → Nat → Int32} {pa : Nat → Nat → Nat → Int32} {s : Nat → Nat → Int32} {sa : Nat → Nat → Nat → Int32} {sw : Bool} {rp : Value} {t : List jE} {z : Nat × Nat × Nat × (Nat → Int32)}  : jev D 118 46 ([some (.ref 0), some (.int x1), some (.int x2), some (.int x3), some (.int x4), d5], []) [.int u0] (jX f g n2 p pa s sa sw rp t, z) = jbO (K_j_bitCount D x2 f g n2 p pa s sa sw rp t z) (jk D 118 48 ([some (.ref 0), some (.int x1), some (.int x2), some (.int x3), some (.int x4), d5], []) [.int u0]) := by
  cases sw
  · refine (jev_blk 1 (pc' := 47) (L' := ([some (.ref 0), some (.int x1), some (.int x2), some (.int x3), some (.int x4), d5], [])) (S' := [.int x2, .int u0]) (h' := (jX f g n2 p pa s sa false rp t, z)) rfl).trans ?_
    exact jev_callb (nx := 48) (rest := [.int u0]) rfl
  · refine (jev_blk 1 (pc' := 47) (L' := ([some (.ref 0), some (.int x1), some (.int x2), some (.int x3), some (.int x4), d5], [])) (S' := [.int x2, .int u0]) (h' := (jX f g n2 p pa s sa true rp t, z)) rfl).trans ?_
    exact jev_callb (nx := 48) (rest := [.int u0]) rfl
set_option maxRecDepth 20000 in
theorem E_c_allSeen_48 {D : Nat}  {x1 : Int32} {x2 : Int32} {x3 : Int32} {x4 : Int32} {d5 : Option Value} {u0 : Int32} {u1 : Int32} {f : Nat → Int32} {g : Nat → Nat → Int32} {n2 : Nat → Nat → Int64} {p : Nat → Nat → Int32} {pa : Nat → Nat → Nat → Int32} {s : Nat → Nat → Int32} {sa : Nat → Nat → Nat → Int32} {sw : Bool} {rp : Value} {t : List jE} {z : Nat × Nat × Nat × (Nat → Int32)}  : jev D 118 48 ([some (.ref 0), some (.int x1), some (.int x2), some (.int x3), some (.int x4), d5], []) [.int u0, .int u1] (jX f g n2 p pa s sa sw rp t, z) = if u1 < u0 then (K_c_allSeen_49 D x1 x2 x3 x4 d5 f g n2 p pa s sa sw rp t z) else (K_c_allSeen_52 D x1 x2 x3 x4 d5 0 f g n2 p pa s sa sw rp t z) := by
  cases sw
  · refine (jev_blk 1 (pc' := if u1 < u0 then 49 else 51) (L' := ([some (.ref 0), some (.int x1), some (.int x2), some (.int x3), some (.int x4), d5], [])) (S' := []) (h' := (jX f g n2 p pa s sa false rp t, z)) rfl).trans (jev_ite.trans (jite_congr (fun _ => ?_) (fun _ => ?_)))
    · rfl
    · exact jev_blk 1 rfl
  · refine (jev_blk 1 (pc' := if u1 < u0 then 49 else 51) (L' := ([some (.ref 0), some (.int x1), some (.int x2), some (.int x3), some (.int x4), d5], [])) (S' := []) (h' := (jX f g n2 p pa s sa true rp t, z)) rfl).trans (jev_ite.trans (jite_congr (fun _ => ?_) (fun _ => ?_)))
    · rfl
    · exact jev_blk 1 rfl
set_option maxRecDepth 20000 in
theorem E_c_look {D : Nat}   {f : Nat → Int32} {g : Nat → Nat → Int32} {n2 : Nat → Nat → Int64} {p : Nat → Nat → Int32} {pa : Nat → Nat → Nat → Int32} {s : Nat → Nat → Int32} {sa : Nat → Nat → Nat → Int32} {sw : Bool} {rp : Value} {t : List jE} {z : Nat × Nat × Nat × (Nat → Int32)}  : K_c_look D f g n2 p pa s sa sw rp t z = K_c_look_2 D 0 f g n2 p pa s sa sw rp t z := by
  cases sw
  · exact jev_blk 2 rfl
  · exact jev_blk 2 rfl
set_option maxRecDepth 20000 in
theorem L_c_look_2 {D : Nat}  {x1 : Int32} {f : Nat → Int32} {g : Nat → Nat → Int32} {n2 : Nat → Nat → Int64} {p : Nat → Nat → Int32} {pa : Nat → Nat → Nat → Int32} {s : Nat → Nat → Int32} {sa : Nat → Nat → Nat → Int32} {sw : Bool} {rp : Value} {t : List jE} {z : Nat × Nat × Nat × (Nat → Int32)}  : K_c_look_2 D x1 f g n2 p pa s sa sw rp t z = if x1 < (p (jq sw) 3) then (jbO (K_h_seenBy D 0 x1 f g n2 p pa s sa sw rp t z) (jk D 119 16 ([some (.ref 0), some (.int x1)], []) [.int x1, .ref 78])) else (some (.inl (none), (jX f g n2 p pa s sa sw rp t, z))) := by
  cases sw
  · refine (jev_blk 5 (pc' := if x1 < (p (jq false) 3) then 7 else 19) (L' := ([some (.ref 0), some (.int x1)], [])) (S' := []) (h' := (jX f g n2 p pa s sa false rp t, z)) rfl).trans (jev_ite.trans (jite_congr (fun _ => ?_) (fun _ => ?_)))
    · refine (jev_blk 8 (pc' := 15) (L' := ([some (.ref 0), some (.int x1)], [])) (S' := [.int x1, .ref 49, .ref 43, .int x1, .ref 78]) (h' := (jX f g n2 p pa s sa false rp t, z)) rfl).trans ?_
      exact jev_callb (nx := 16) (rest := [.int x1, .ref 78]) rfl
    · exact jev_fin rfl
  · refine (jev_blk 5 (pc' := if x1 < (p (jq true) 3) then 7 else 19) (L' := ([some (.ref 0), some (.int x1)], [])) (S' := []) (h' := (jX f g n2 p pa s sa true rp t, z)) rfl).trans (jev_ite.trans (jite_congr (fun _ => ?_) (fun _ => ?_)))
    · refine (jev_blk 8 (pc' := 15) (L' := ([some (.ref 0), some (.int x1)], [])) (S' := [.int x1, .ref 49, .ref 43, .int x1, .ref 78]) (h' := (jX f g n2 p pa s sa true rp t, z)) rfl).trans ?_
      exact jev_callb (nx := 16) (rest := [.int x1, .ref 78]) rfl
    · exact jev_fin rfl
set_option maxRecDepth 20000 in
theorem E_c_look_16 {D : Nat}  {x1 : Int32} {u0 : Int32} {u1 : Int32} {f : Nat → Int32} {g : Nat → Nat → Int32} {n2 : Nat → Nat → Int64} {p : Nat → Nat → Int32} {pa : Nat → Nat → Nat → Int32} {s : Nat → Nat → Int32} {sa : Nat → Nat → Nat → Int32} {sw : Bool} {rp : Value} {t : List jE} {z : Nat × Nat × Nat × (Nat → Int32)}  : jev D 119 16 ([some (.ref 0), some (.int x1)], []) [.int u0, .int u1, .ref 78] (jX f g n2 p pa s sa sw rp t, z) = if jout u1 6 then none else (K_c_look_2 D (x1 + 1) f (jup g 12 ((jup (g 12) (u1.toNatClampNeg) u0))) n2 p pa s sa sw rp t z) := by
  cases sw
  · refine (jev_grd (q := jout u1 6) (pc' := 17) (L' := ([some (.ref 0), some (.int x1)], [])) (S' := []) (h' := (jX f (jup g 12 ((jup (g 12) (u1.toNatClampNeg) u0))) n2 p pa s sa false rp t, z)) rfl).trans (jite_congr (fun _ => rfl) (fun _ => ?_))
    exact jev_blk 2 rfl
  · refine (jev_grd (q := jout u1 6) (pc' := 17) (L' := ([some (.ref 0), some (.int x1)], [])) (S' := []) (h' := (jX f (jup g 12 ((jup (g 12) (u1.toNatClampNeg) u0))) n2 p pa s sa true rp t, z)) rfl).trans (jite_congr (fun _ => rfl) (fun _ => ?_))
    exact jev_blk 2 rfl
set_option maxRecDepth 20000 in
theorem E_c_oneMore {D : Nat}  {a0 : Int32} {a1 : Int32} {f : Nat → Int32} {g : Nat → Nat → Int32} {n2 : Nat → Nat → Int64} {p : Nat → Nat → Int32} {pa : Nat → Nat → Nat → Int32} {s : Nat → Nat → Int32} {sa : Nat → Nat → Nat → Int32} {sw : Bool} {rp : Value} {t : List jE} {z : Nat × Nat × Nat × (Nat → Int32)}  : K_c_oneMore D a0 a1 f g n2 p pa s sa sw rp t z = if a0 < 0 then (some (.inl (some (.int (-1))), (jX f g n2 p pa s sa sw rp t, z))) else (if 9 < a0 then (some (.inl (some (.int (-1))), (jX f g n2 p pa s sa sw rp t, z))) else (if a1 < 0 then (some (.inl (some (.int (-1))), (jX f g n2 p pa s sa sw rp t, z))) else (if 1 < a1 then (some (.inl (some (.int (-1))), (jX f g n2 p pa s sa sw rp t, z))) else (jbO (K_s_ripe D 0 f g n2 p pa s sa sw rp t z) (jk D 120 15 ([some (.ref 0), some (.int a0), some (.int a1), none, none, none, none, none], []) []))))) := by
  cases sw
  · refine (jev_blk 2 (pc' := if a0 < 0 then 10 else 2) (L' := ([some (.ref 0), some (.int a0), some (.int a1), none, none, none, none, none], [])) (S' := []) (h' := (jX f g n2 p pa s sa false rp t, z)) rfl).trans (jev_ite.trans (jite_congr (fun _ => ?_) (fun _ => ?_)))
    · refine (jev_blk 1 (pc' := 11) (L' := ([some (.ref 0), some (.int a0), some (.int a1), none, none, none, none, none], [])) (S' := [.int (-1)]) (h' := (jX f g n2 p pa s sa false rp t, z)) rfl).trans ?_
      exact jev_fin rfl
    · refine (jev_blk 3 (pc' := if 9 < a0 then 10 else 5) (L' := ([some (.ref 0), some (.int a0), some (.int a1), none, none, none, none, none], [])) (S' := []) (h' := (jX f g n2 p pa s sa false rp t, z)) rfl).trans (jev_ite.trans (jite_congr (fun _ => ?_) (fun _ => ?_)))
      · refine (jev_blk 1 (pc' := 11) (L' := ([some (.ref 0), some (.int a0), some (.int a1), none, none, none, none, none], [])) (S' := [.int (-1)]) (h' := (jX f g n2 p pa s sa false rp t, z)) rfl).trans ?_
        exact jev_fin rfl
      · refine (jev_blk 2 (pc' := if a1 < 0 then 10 else 7) (L' := ([some (.ref 0), some (.int a0), some (.int a1), none, none, none, none, none], [])) (S' := []) (h' := (jX f g n2 p pa s sa false rp t, z)) rfl).trans (jev_ite.trans (jite_congr (fun _ => ?_) (fun _ => ?_)))
        · refine (jev_blk 1 (pc' := 11) (L' := ([some (.ref 0), some (.int a0), some (.int a1), none, none, none, none, none], [])) (S' := [.int (-1)]) (h' := (jX f g n2 p pa s sa false rp t, z)) rfl).trans ?_
          exact jev_fin rfl
        · refine (jev_blk 3 (pc' := if 1 < a1 then 10 else 12) (L' := ([some (.ref 0), some (.int a0), some (.int a1), none, none, none, none, none], [])) (S' := []) (h' := (jX f g n2 p pa s sa false rp t, z)) rfl).trans (jev_ite.trans (jite_congr (fun _ => ?_) (fun _ => ?_)))
          · refine (jev_blk 1 (pc' := 11) (L' := ([some (.ref 0), some (.int a0), some (.int a1), none, none, none, none, none], [])) (S' := [.int (-1)]) (h' := (jX f g n2 p pa s sa false rp t, z)) rfl).trans ?_
            exact jev_fin rfl
          · refine (jev_blk 2 (pc' := 14) (L' := ([some (.ref 0), some (.int a0), some (.int a1), none, none, none, none, none], [])) (S' := [.ref 49]) (h' := (jX f g n2 p pa s sa false rp t, z)) rfl).trans ?_
            exact jev_callb (nx := 15) (rest := []) rfl
  · refine (jev_blk 2 (pc' := if a0 < 0 then 10 else 2) (L' := ([some (.ref 0), some (.int a0), some (.int a1), none, none, none, none, none], [])) (S' := []) (h' := (jX f g n2 p pa s sa true rp t, z)) rfl).trans (jev_ite.trans (jite_congr (fun _ => ?_) (fun _ => ?_)))
    · refine (jev_blk 1 (pc' := 11) (L' := ([some (.ref 0), some (.int a0), some (.int a1), none, none, none, none, none], [])) (S' := [.int (-1)]) (h' := (jX f g n2 p pa s sa true rp t, z)) rfl).trans ?_
      exact jev_fin rfl
    · refine (jev_blk 3 (pc' := if 9 < a0 then 10 else 5) (L' := ([some (.ref 0), some (.int a0), some (.int a1), none, none, none, none, none], [])) (S' := []) (h' := (jX f g n2 p pa s sa true rp t, z)) rfl).trans (jev_ite.trans (jite_congr (fun _ => ?_) (fun _ => ?_)))
      · refine (jev_blk 1 (pc' := 11) (L' := ([some (.ref 0), some (.int a0), some (.int a1), none, none, none, none, none], [])) (S' := [.int (-1)]) (h' := (jX f g n2 p pa s sa true rp t, z)) rfl).trans ?_
        exact jev_fin rfl
      · refine (jev_blk 2 (pc' := if a1 < 0 then 10 else 7) (L' := ([some (.ref 0), some (.int a0), some (.int a1), none, none, none, none, none], [])) (S' := []) (h' := (jX f g n2 p pa s sa true rp t, z)) rfl).trans (jev_ite.trans (jite_congr (fun _ => ?_) (fun _ => ?_)))
        · refine (jev_blk 1 (pc' := 11) (L' := ([some (.ref 0), some (.int a0), some (.int a1), none, none, none, none, none], [])) (S' := [.int (-1)]) (h' := (jX f g n2 p pa s sa true rp t, z)) rfl).trans ?_
          exact jev_fin rfl
        · refine (jev_blk 3 (pc' := if 1 < a1 then 10 else 12) (L' := ([some (.ref 0), some (.int a0), some (.int a1), none, none, none, none, none], [])) (S' := []) (h' := (jX f g n2 p pa s sa true rp t, z)) rfl).trans (jev_ite.trans (jite_congr (fun _ => ?_) (fun _ => ?_)))
          · refine (jev_blk 1 (pc' := 11) (L' := ([some (.ref 0), some (.int a0), some (.int a1), none, none, none, none, none], [])) (S' := [.int (-1)]) (h' := (jX f g n2 p pa s sa true rp t, z)) rfl).trans ?_
            exact jev_fin rfl
          · refine (jev_blk 2 (pc' := 14) (L' := ([some (.ref 0), some (.int a0), some (.int a1), none, none, none, none, none], [])) (S' := [.ref 49]) (h' := (jX f g n2 p pa s sa true rp t, z)) rfl).trans ?_
            exact jev_callb (nx := 15) (rest := []) rfl
set_option maxRecDepth 20000 in
theorem E_c_oneMore_15 {D : Nat}  {x1 : Int32} {x2 : Int32} {d3 : Option Value} {d4 : Option Value} {d5 : Option Value} {d6 : Option Value} {d7 : Option Value} {u0 : Int32} {f : Nat → Int32} {g : Nat → Nat → Int32} {n2 : Nat → Nat → Int64} {p : Nat → Nat → Int32} {pa : Nat → Nat → Nat → Int32} {s : Nat → Nat → Int32} {sa : Nat → Nat → Nat → Int32} {sw : Bool} {rp : Value} {t : List jE} {z : Nat × Nat × Nat × (Nat → Int32)}  : jev D 120 15 ([some (.ref 0), some (.int x1), some (.int x2), d3, d4, d5, d6, d7], []) [.int u0] (jX f g n2 p pa s sa sw rp t, z) = K_c_oneMore_18 D x1 x2 u0 0 d5 d6 d7 f g n2 p pa s sa sw rp t z := by
  cases sw
  · exact jev_blk 3 rfl
  · exact jev_blk 3 rfl
set_option maxRecDepth 20000 in
theorem L_c_oneMore_18 {D : Nat}  {x1 : Int32} {x2 : Int32} {x3 : Int32} {x4 : Int32} {d5 : Option Value} {d6 : Option Value} {d7 : Option Value} {f : Nat → Int32} {g : Nat → Nat → Int32} {n2 : Nat → Nat → Int64} {p : Nat → Nat → Int32} {pa : Nat → Nat → Nat → Int32} {s : Nat → Nat → Int32} {sa : Nat → Nat → Nat → Int32} {sw : Bool} {rp : Value} {t : List jE} {z : Nat × Nat × Nat × (Nat → Int32)}  : K_c_oneMore_18 D x1 x2 x3 x4 d5 d6 d7 f g n2 p pa s sa sw rp t z = if x4 < (p (jq sw) 3) then (jbO (K_s_onRota D 0 x4 f g n2 p pa s sa sw rp t z) (jk D 120 27 ([some (.ref 0), some (.int x1), some (.int x2), some (.int x3), some (.int x4), d5, d6, d7], []) [])) else (K_c_oneMore_47 D x1 x2 x3 0 (-1) 0 d7 f g n2 p pa s sa sw rp t z) := by
  cases sw
  · refine (jev_blk 5 (pc' := if x4 < (p (jq false) 3) then 23 else 41) (L' := ([some (.ref 0), some (.int x1), some (.int x2), some (.int x3), some (.int x4), d5, d6, d7], [])) (S' := []) (h' := (jX f g n2 p pa s sa false rp t, z)) rfl).trans (jev_ite.trans (jite_congr (fun _ => ?_) (fun _ => ?_)))
    · refine (jev_blk 3 (pc' := 26) (L' := ([some (.ref 0), some (.int x1), some (.int x2), some (.int x3), some (.int x4), d5, d6, d7], [])) (S' := [.int x4, .ref 49]) (h' := (jX f g n2 p pa s sa false rp t, z)) rfl).trans ?_
      exact jev_callb (nx := 27) (rest := []) rfl
    · exact jev_blk 6 rfl
  · refine (jev_blk 5 (pc' := if x4 < (p (jq true) 3) then 23 else 41) (L' := ([some (.ref 0), some (.int x1), some (.int x2), some (.int x3), some (.int x4), d5, d6, d7], [])) (S' := []) (h' := (jX f g n2 p pa s sa true rp t, z)) rfl).trans (jev_ite.trans (jite_congr (fun _ => ?_) (fun _ => ?_)))
    · refine (jev_blk 3 (pc' := 26) (L' := ([some (.ref 0), some (.int x1), some (.int x2), some (.int x3), some (.int x4), d5, d6, d7], [])) (S' := [.int x4, .ref 49]) (h' := (jX f g n2 p pa s sa true rp t, z)) rfl).trans ?_
      exact jev_callb (nx := 27) (rest := []) rfl
    · exact jev_blk 6 rfl
set_option maxRecDepth 20000 in
theorem L_c_oneMore_47 {D : Nat}  {x1 : Int32} {x2 : Int32} {x3 : Int32} {x4 : Int32} {x5 : Int32} {x6 : Int32} {d7 : Option Value} {f : Nat → Int32} {g : Nat → Nat → Int32} {n2 : Nat → Nat → Int64} {p : Nat → Nat → Int32} {pa : Nat → Nat → Nat → Int32} {s : Nat → Nat → Int32} {sa : Nat → Nat → Nat → Int32} {sw : Bool} {rp : Value} {t : List jE} {z : Nat × Nat × Nat × (Nat → Int32)}  : K_c_oneMore_47 D x1 x2 x3 x4 x5 x6 d7 f g n2 p pa s sa sw rp t z = jbO (K_p_cells D sw f g n2 p pa s sa sw rp t z) (jk D 120 51 ([some (.ref 0), some (.int x1), some (.int x2), some (.int x3), some (.int x4), some (.int x5), some (.int x6), d7], []) [.int x6]) := by
  cases sw
  · refine (jev_blk 3 (pc' := 50) (L' := ([some (.ref 0), some (.int x1), some (.int x2), some (.int x3), some (.int x4), some (.int x5), some (.int x6), d7], [])) (S' := [.ref (jpl false), .int x6]) (h' := (jX f g n2 p pa s sa false rp t, z)) rfl).trans ?_
    exact jev_callb (nx := 51) (rest := [.int x6]) rfl
  · refine (jev_blk 3 (pc' := 50) (L' := ([some (.ref 0), some (.int x1), some (.int x2), some (.int x3), some (.int x4), some (.int x5), some (.int x6), d7], [])) (S' := [.ref (jpl true), .int x6]) (h' := (jX f g n2 p pa s sa true rp t, z)) rfl).trans ?_
    exact jev_callb (nx := 51) (rest := [.int x6]) rfl
set_option maxRecDepth 20000 in
theorem E_c_oneMore_27 {D : Nat}  {x1 : Int32} {x2 : Int32} {x3 : Int32} {x4 : Int32} {d5 : Option Value} {d6 : Option Value} {d7 : Option Value} {u0 : Int32} {f : Nat → Int32} {g : Nat → Nat → Int32} {n2 : Nat → Nat → Int64} {p : Nat → Nat → Int32} {pa : Nat → Nat → Nat → Int32} {s : Nat → Nat → Int32} {sa : Nat → Nat → Nat → Int32} {sw : Bool} {rp : Value} {t : List jE} {z : Nat × Nat × Nat × (Nat → Int32)}  : jev D 120 27 ([some (.ref 0), some (.int x1), some (.int x2), some (.int x3), some (.int x4), d5, d6, d7], []) [.int u0] (jX f g n2 p pa s sa sw rp t, z) = if u0 = 0 then (K_c_oneMore_39 D x1 x2 x3 x4 d5 d6 d7 f g n2 p pa s sa sw rp t z) else (jbO (K_h_seenBy D 0 x4 f g n2 p pa s sa sw rp t z) (jk D 120 35 ([some (.ref 0), some (.int x1), some (.int x2), some (.int x3), some (.int x4), d5, d6, d7], []) [.int x3])) := by
  cases sw
  · refine (jev_blk 1 (pc' := if u0 = 0 then 39 else 28) (L' := ([some (.ref 0), some (.int x1), some (.int x2), some (.int x3), some (.int x4), d5, d6, d7], [])) (S' := []) (h' := (jX f g n2 p pa s sa false rp t, z)) rfl).trans (jev_ite.trans (jite_congr (fun _ => ?_) (fun _ => ?_)))
    · rfl
    · refine (jev_blk 6 (pc' := 34) (L' := ([some (.ref 0), some (.int x1), some (.int x2), some (.int x3), some (.int x4), d5, d6, d7], [])) (S' := [.int x4, .ref 49, .ref 43, .int x3]) (h' := (jX f g n2 p pa s sa false rp t, z)) rfl).trans ?_
      exact jev_callb (nx := 35) (rest := [.int x3]) rfl
  · refine (jev_blk 1 (pc' := if u0 = 0 then 39 else 28) (L' := ([some (.ref 0), some (.int x1), some (.int x2), some (.int x3), some (.int x4), d5, d6, d7], [])) (S' := []) (h' := (jX f g n2 p pa s sa true rp t, z)) rfl).trans (jev_ite.trans (jite_congr (fun _ => ?_) (fun _ => ?_)))
    · rfl
    · refine (jev_blk 6 (pc' := 34) (L' := ([some (.ref 0), some (.int x1), some (.int x2), some (.int x3), some (.int x4), d5, d6, d7], [])) (S' := [.int x4, .ref 49, .ref 43, .int x3]) (h' := (jX f g n2 p pa s sa true rp t, z)) rfl).trans ?_
      exact jev_callb (nx := 35) (rest := [.int x3]) rfl
set_option maxRecDepth 20000 in
theorem E_c_oneMore_39 {D : Nat}  {x1 : Int32} {x2 : Int32} {x3 : Int32} {x4 : Int32} {d5 : Option Value} {d6 : Option Value} {d7 : Option Value} {f : Nat → Int32} {g : Nat → Nat → Int32} {n2 : Nat → Nat → Int64} {p : Nat → Nat → Int32} {pa : Nat → Nat → Nat → Int32} {s : Nat → Nat → Int32} {sa : Nat → Nat → Nat → Int32} {sw : Bool} {rp : Value} {t : List jE} {z : Nat × Nat × Nat × (Nat → Int32)}  : K_c_oneMore_39 D x1 x2 x3 x4 d5 d6 d7 f g n2 p pa s sa sw rp t z = K_c_oneMore_18 D x1 x2 x3 (x4 + 1) d5 d6 d7 f g n2 p pa s sa sw rp t z := by
  cases sw
  · exact jev_blk 2 rfl
  · exact jev_blk 2 rfl
set_option maxRecDepth 20000 in
theorem E_c_oneMore_51 {D : Nat}  {x1 : Int32} {x2 : Int32} {x3 : Int32} {x4 : Int32} {x5 : Int32} {x6 : Int32} {d7 : Option Value} {u0 : Int32} {u1 : Int32} {f : Nat → Int32} {g : Nat → Nat → Int32} {n2 : Nat → Nat → Int64} {p : Nat → Nat → Int32} {pa : Nat → Nat → Nat → Int32} {s : Nat → Nat → Int32} {sa : Nat → Nat → Nat → Int32} {sw : Bool} {rp : Value} {t : List jE} {z : Nat × Nat × Nat × (Nat → Int32)}  : jev D 120 51 ([some (.ref 0), some (.int x1), some (.int x2), some (.int x3), some (.int x4), some (.int x5), some (.int x6), d7], []) [.int u0, .int u1] (jX f g n2 p pa s sa sw rp t, z) = if u1 < u0 then (jbO (K_h_seenFrom D 0 x6 x1 x3 f g n2 p pa s sa sw rp t z) (jk D 120 62 ([some (.ref 0), some (.int x1), some (.int x2), some (.int x3), some (.int x4), some (.int x5), some (.int x6), d7], []) [.ref 49])) else (if x2 = 0 then (some (.inl (some (.int x4)), (jX f g n2 p pa s sa sw rp t, z))) else (some (.inl (some (.int x5)), (jX f g n2 p pa s sa sw rp t, z)))) := by
  cases sw
  · refine (jev_blk 1 (pc' := if u1 < u0 then 52 else 73) (L' := ([some (.ref 0), some (.int x1), some (.int x2), some (.int x3), some (.int x4), some (.int x5), some (.int x6), d7], [])) (S' := []) (h' := (jX f g n2 p pa s sa false rp t, z)) rfl).trans (jev_ite.trans (jite_congr (fun _ => ?_) (fun _ => ?_)))
    · refine (jev_blk 9 (pc' := 61) (L' := ([some (.ref 0), some (.int x1), some (.int x2), some (.int x3), some (.int x4), some (.int x5), some (.int x6), d7], [])) (S' := [.int x3, .int x1, .int x6, .ref 49, .ref 43, .ref 49]) (h' := (jX f g n2 p pa s sa false rp t, z)) rfl).trans ?_
      exact jev_callb (nx := 62) (rest := [.ref 49]) rfl
    · refine (jev_blk 2 (pc' := if x2 = 0 then 75 else 77) (L' := ([some (.ref 0), some (.int x1), some (.int x2), some (.int x3), some (.int x4), some (.int x5), some (.int x6), d7], [])) (S' := []) (h' := (jX f g n2 p pa s sa false rp t, z)) rfl).trans (jev_ite.trans (jite_congr (fun _ => ?_) (fun _ => ?_)))
      · refine (jev_blk 2 (pc' := 78) (L' := ([some (.ref 0), some (.int x1), some (.int x2), some (.int x3), some (.int x4), some (.int x5), some (.int x6), d7], [])) (S' := [.int x4]) (h' := (jX f g n2 p pa s sa false rp t, z)) rfl).trans ?_
        exact jev_fin rfl
      · refine (jev_blk 1 (pc' := 78) (L' := ([some (.ref 0), some (.int x1), some (.int x2), some (.int x3), some (.int x4), some (.int x5), some (.int x6), d7], [])) (S' := [.int x5]) (h' := (jX f g n2 p pa s sa false rp t, z)) rfl).trans ?_
        exact jev_fin rfl
  · refine (jev_blk 1 (pc' := if u1 < u0 then 52 else 73) (L' := ([some (.ref 0), some (.int x1), some (.int x2), some (.int x3), some (.int x4), some (.int x5), some (.int x6), d7], [])) (S' := []) (h' := (jX f g n2 p pa s sa true rp t, z)) rfl).trans (jev_ite.trans (jite_congr (fun _ => ?_) (fun _ => ?_)))
    · refine (jev_blk 9 (pc' := 61) (L' := ([some (.ref 0), some (.int x1), some (.int x2), some (.int x3), some (.int x4), some (.int x5), some (.int x6), d7], [])) (S' := [.int x3, .int x1, .int x6, .ref 49, .ref 43, .ref 49]) (h' := (jX f g n2 p pa s sa true rp t, z)) rfl).trans ?_
      exact jev_callb (nx := 62) (rest := [.ref 49]) rfl
    · refine (jev_blk 2 (pc' := if x2 = 0 then 75 else 77) (L' := ([some (.ref 0), some (.int x1), some (.int x2), some (.int x3), some (.int x4), some (.int x5), some (.int x6), d7], [])) (S' := []) (h' := (jX f g n2 p pa s sa true rp t, z)) rfl).trans (jev_ite.trans (jite_congr (fun _ => ?_) (fun _ => ?_)))
      · refine (jev_blk 2 (pc' := 78) (L' := ([some (.ref 0), some (.int x1), some (.int x2), some (.int x3), some (.int x4), some (.int x5), some (.int x6), d7], [])) (S' := [.int x4]) (h' := (jX f g n2 p pa s sa true rp t, z)) rfl).trans ?_
        exact jev_fin rfl
      · refine (jev_blk 1 (pc' := 78) (L' := ([some (.ref 0), some (.int x1), some (.int x2), some (.int x3), some (.int x4), some (.int x5), some (.int x6), d7], [])) (S' := [.int x5]) (h' := (jX f g n2 p pa s sa true rp t, z)) rfl).trans ?_
        exact jev_fin rfl
set_option maxRecDepth 20000 in
theorem E_c_oneMore_35 {D : Nat}  {x1 : Int32} {x2 : Int32} {d3 : Option Value} {x4 : Int32} {d5 : Option Value} {d6 : Option Value} {d7 : Option Value} {u0 : Int32} {u1 : Int32} {f : Nat → Int32} {g : Nat → Nat → Int32} {n2 : Nat → Nat → Int64} {p : Nat → Nat → Int32} {pa : Nat → Nat → Nat → Int32} {s : Nat → Nat → Int32} {sa : Nat → Nat → Nat → Int32} {sw : Bool} {rp : Value} {t : List jE} {z : Nat × Nat × Nat × (Nat → Int32)}  : jev D 120 35 ([some (.ref 0), some (.int x1), some (.int x2), d3, some (.int x4), d5, d6, d7], []) [.int u0, .int u1] (jX f g n2 p pa s sa sw rp t, z) = K_c_oneMore_39 D x1 x2 (u1 &&& (u0 ^^^ (-1))) x4 d5 d6 d7 f g n2 p pa s sa sw rp t z := by
  cases sw
  · exact jev_blk 4 rfl
  · exact jev_blk 4 rfl
set_option maxRecDepth 20000 in
theorem E_c_oneMore_62 {D : Nat}  {x1 : Int32} {x2 : Int32} {x3 : Int32} {x4 : Int32} {x5 : Int32} {x6 : Int32} {d7 : Option Value} {u0 : Int32} {f : Nat → Int32} {g : Nat → Nat → Int32} {n2 : Nat → Nat → Int64} {p : Nat → Nat → Int32} {pa : Nat → Nat → Nat → Int32} {s : Nat → Nat → Int32} {sa : Nat → Nat → Nat → Int32} {sw : Bool} {rp : Value} {t : List jE} {z : Nat × Nat × Nat × (Nat → Int32)}  : jev D 120 62 ([some (.ref 0), some (.int x1), some (.int x2), some (.int x3), some (.int x4), some (.int x5), some (.int x6), d7], []) [.int u0, .ref 49] (jX f g n2 p pa s sa sw rp t, z) = jbO (K_s_cropOf D 0 u0 f g n2 p pa s sa sw rp t z) (jk D 120 63 ([some (.ref 0), some (.int x1), some (.int x2), some (.int x3), some (.int x4), some (.int x5), some (.int x6), d7], []) []) := by
  cases sw
  · exact jev_callb (nx := 63) (rest := []) rfl
  · exact jev_callb (nx := 63) (rest := []) rfl
set_option maxRecDepth 20000 in
theorem E_c_oneMore_63 {D : Nat}  {x1 : Int32} {x2 : Int32} {x3 : Int32} {x4 : Int32} {x5 : Int32} {x6 : Int32} {d7 : Option Value} {u0 : Int32} {f : Nat → Int32} {g : Nat → Nat → Int32} {n2 : Nat → Nat → Int64} {p : Nat → Nat → Int32} {pa : Nat → Nat → Nat → Int32} {s : Nat → Nat → Int32} {sa : Nat → Nat → Nat → Int32} {sw : Bool} {rp : Value} {t : List jE} {z : Nat × Nat × Nat × (Nat → Int32)}  : jev D 120 63 ([some (.ref 0), some (.int x1), some (.int x2), some (.int x3), some (.int x4), some (.int x5), some (.int x6), d7], []) [.int u0] (jX f g n2 p pa s sa sw rp t, z) = if x5 < u0 then (K_c_oneMore_71 D x1 x2 x3 x6 u0 x6 (some (.int u0)) f g n2 p pa s sa sw rp t z) else (K_c_oneMore_71 D x1 x2 x3 x4 x5 x6 (some (.int u0)) f g n2 p pa s sa sw rp t z) := by
  cases sw
  · refine (jev_blk 4 (pc' := if x5 < u0 then 67 else 71) (L' := ([some (.ref 0), some (.int x1), some (.int x2), some (.int x3), some (.int x4), some (.int x5), some (.int x6), some (.int u0)], [])) (S' := []) (h' := (jX f g n2 p pa s sa false rp t, z)) rfl).trans (jev_ite.trans (jite_congr (fun _ => ?_) (fun _ => ?_)))
    · exact jev_blk 4 rfl
    · rfl
  · refine (jev_blk 4 (pc' := if x5 < u0 then 67 else 71) (L' := ([some (.ref 0), some (.int x1), some (.int x2), some (.int x3), some (.int x4), some (.int x5), some (.int x6), some (.int u0)], [])) (S' := []) (h' := (jX f g n2 p pa s sa true rp t, z)) rfl).trans (jev_ite.trans (jite_congr (fun _ => ?_) (fun _ => ?_)))
    · exact jev_blk 4 rfl
    · rfl
set_option maxRecDepth 20000 in
theorem E_c_oneMore_71 {D : Nat}  {x1 : Int32} {x2 : Int32} {x3 : Int32} {x4 : Int32} {x5 : Int32} {x6 : Int32} {d7 : Option Value} {f : Nat → Int32} {g : Nat → Nat → Int32} {n2 : Nat → Nat → Int64} {p : Nat → Nat → Int32} {pa : Nat → Nat → Nat → Int32} {s : Nat → Nat → Int32} {sa : Nat → Nat → Nat → Int32} {sw : Bool} {rp : Value} {t : List jE} {z : Nat × Nat × Nat × (Nat → Int32)}  : K_c_oneMore_71 D x1 x2 x3 x4 x5 x6 d7 f g n2 p pa s sa sw rp t z = K_c_oneMore_47 D x1 x2 x3 x4 x5 (x6 + 1) d7 f g n2 p pa s sa sw rp t z := by
  cases sw
  · exact jev_blk 2 rfl
  · exact jev_blk 2 rfl
set_option maxRecDepth 20000 in
theorem E_c_costs {D : Nat}  {a0 : Int32} {a1 : Int32} {a2 : Int32} {f : Nat → Int32} {g : Nat → Nat → Int32} {n2 : Nat → Nat → Int64} {p : Nat → Nat → Int32} {pa : Nat → Nat → Nat → Int32} {s : Nat → Nat → Int32} {sa : Nat → Nat → Nat → Int32} {sw : Bool} {rp : Value} {t : List jE} {z : Nat × Nat × Nat × (Nat → Int32)}  : K_c_costs D a0 a1 a2 f g n2 p pa s sa sw rp t z = jbO (K_p_hasScare D sw a0 f g n2 p pa s sa sw rp t z) (jk D 121 4 ([some (.ref 0), some (.int a0), some (.int a1), some (.int a2), none, none], []) []) := by
  cases sw
  · refine (jev_blk 3 (pc' := 3) (L' := ([some (.ref 0), some (.int a0), some (.int a1), some (.int a2), none, none], [])) (S' := [.int a0, .ref (jpl false)]) (h' := (jX f g n2 p pa s sa false rp t, z)) rfl).trans ?_
    exact jev_callb (nx := 4) (rest := []) rfl
  · refine (jev_blk 3 (pc' := 3) (L' := ([some (.ref 0), some (.int a0), some (.int a1), some (.int a2), none, none], [])) (S' := [.int a0, .ref (jpl true)]) (h' := (jX f g n2 p pa s sa true rp t, z)) rfl).trans ?_
    exact jev_callb (nx := 4) (rest := []) rfl
set_option maxRecDepth 20000 in
theorem E_c_costs_4 {D : Nat}  {x1 : Int32} {x2 : Int32} {x3 : Int32} {d4 : Option Value} {d5 : Option Value} {u0 : Int32} {f : Nat → Int32} {g : Nat → Nat → Int32} {n2 : Nat → Nat → Int64} {p : Nat → Nat → Int32} {pa : Nat → Nat → Nat → Int32} {s : Nat → Nat → Int32} {sa : Nat → Nat → Nat → Int32} {sw : Bool} {rp : Value} {t : List jE} {z : Nat × Nat × Nat × (Nat → Int32)}  : jev D 121 4 ([some (.ref 0), some (.int x1), some (.int x2), some (.int x3), d4, d5], []) [.int u0] (jX f g n2 p pa s sa sw rp t, z) = if u0 = 0 then (some (.inl (some (.int (-1))), (jX f g n2 p pa s sa sw rp t, z))) else (if x2 < 1 then (some (.inl (some (.int (-1))), (jX f g n2 p pa s sa sw rp t, z))) else (if 9 < x2 then (some (.inl (some (.int (-1))), (jX f g n2 p pa s sa sw rp t, z))) else (if x3 < 0 then (some (.inl (some (.int (-1))), (jX f g n2 p pa s sa sw rp t, z))) else (if 1 < x3 then (some (.inl (some (.int (-1))), (jX f g n2 p pa s sa sw rp t, z))) else (jbO (K_s_follow20 D f g n2 p pa s sa sw rp t z) (jk D 121 23 ([some (.ref 0), some (.int x1), some (.int x2), some (.int x3), d4, d5], []) [])))))) := by
  cases sw
  · refine (jev_blk 1 (pc' := if u0 = 0 then 16 else 5) (L' := ([some (.ref 0), some (.int x1), some (.int x2), some (.int x3), d4, d5], [])) (S' := []) (h' := (jX f g n2 p pa s sa false rp t, z)) rfl).trans (jev_ite.trans (jite_congr (fun _ => ?_) (fun _ => ?_)))
    · refine (jev_blk 1 (pc' := 17) (L' := ([some (.ref 0), some (.int x1), some (.int x2), some (.int x3), d4, d5], [])) (S' := [.int (-1)]) (h' := (jX f g n2 p pa s sa false rp t, z)) rfl).trans ?_
      exact jev_fin rfl
    · refine (jev_blk 3 (pc' := if x2 < 1 then 16 else 8) (L' := ([some (.ref 0), some (.int x1), some (.int x2), some (.int x3), d4, d5], [])) (S' := []) (h' := (jX f g n2 p pa s sa false rp t, z)) rfl).trans (jev_ite.trans (jite_congr (fun _ => ?_) (fun _ => ?_)))
      · refine (jev_blk 1 (pc' := 17) (L' := ([some (.ref 0), some (.int x1), some (.int x2), some (.int x3), d4, d5], [])) (S' := [.int (-1)]) (h' := (jX f g n2 p pa s sa false rp t, z)) rfl).trans ?_
        exact jev_fin rfl
      · refine (jev_blk 3 (pc' := if 9 < x2 then 16 else 11) (L' := ([some (.ref 0), some (.int x1), some (.int x2), some (.int x3), d4, d5], [])) (S' := []) (h' := (jX f g n2 p pa s sa false rp t, z)) rfl).trans (jev_ite.trans (jite_congr (fun _ => ?_) (fun _ => ?_)))
        · refine (jev_blk 1 (pc' := 17) (L' := ([some (.ref 0), some (.int x1), some (.int x2), some (.int x3), d4, d5], [])) (S' := [.int (-1)]) (h' := (jX f g n2 p pa s sa false rp t, z)) rfl).trans ?_
          exact jev_fin rfl
        · refine (jev_blk 2 (pc' := if x3 < 0 then 16 else 13) (L' := ([some (.ref 0), some (.int x1), some (.int x2), some (.int x3), d4, d5], [])) (S' := []) (h' := (jX f g n2 p pa s sa false rp t, z)) rfl).trans (jev_ite.trans (jite_congr (fun _ => ?_) (fun _ => ?_)))
          · refine (jev_blk 1 (pc' := 17) (L' := ([some (.ref 0), some (.int x1), some (.int x2), some (.int x3), d4, d5], [])) (S' := [.int (-1)]) (h' := (jX f g n2 p pa s sa false rp t, z)) rfl).trans ?_
            exact jev_fin rfl
          · refine (jev_blk 3 (pc' := if 1 < x3 then 16 else 18) (L' := ([some (.ref 0), some (.int x1), some (.int x2), some (.int x3), d4, d5], [])) (S' := []) (h' := (jX f g n2 p pa s sa false rp t, z)) rfl).trans (jev_ite.trans (jite_congr (fun _ => ?_) (fun _ => ?_)))
            · refine (jev_blk 1 (pc' := 17) (L' := ([some (.ref 0), some (.int x1), some (.int x2), some (.int x3), d4, d5], [])) (S' := [.int (-1)]) (h' := (jX f g n2 p pa s sa false rp t, z)) rfl).trans ?_
              exact jev_fin rfl
            · refine (jev_blk 4 (pc' := 22) (L' := ([some (.ref 0), some (.int x1), some (.int x2), some (.int x3), d4, d5], [])) (S' := [.ref 49, .ref 61]) (h' := (jX f g n2 p pa s sa false rp t, z)) rfl).trans ?_
              exact jev_callb (nx := 23) (rest := []) rfl
  · refine (jev_blk 1 (pc' := if u0 = 0 then 16 else 5) (L' := ([some (.ref 0), some (.int x1), some (.int x2), some (.int x3), d4, d5], [])) (S' := []) (h' := (jX f g n2 p pa s sa true rp t, z)) rfl).trans (jev_ite.trans (jite_congr (fun _ => ?_) (fun _ => ?_)))
    · refine (jev_blk 1 (pc' := 17) (L' := ([some (.ref 0), some (.int x1), some (.int x2), some (.int x3), d4, d5], [])) (S' := [.int (-1)]) (h' := (jX f g n2 p pa s sa true rp t, z)) rfl).trans ?_
      exact jev_fin rfl
    · refine (jev_blk 3 (pc' := if x2 < 1 then 16 else 8) (L' := ([some (.ref 0), some (.int x1), some (.int x2), some (.int x3), d4, d5], [])) (S' := []) (h' := (jX f g n2 p pa s sa true rp t, z)) rfl).trans (jev_ite.trans (jite_congr (fun _ => ?_) (fun _ => ?_)))
      · refine (jev_blk 1 (pc' := 17) (L' := ([some (.ref 0), some (.int x1), some (.int x2), some (.int x3), d4, d5], [])) (S' := [.int (-1)]) (h' := (jX f g n2 p pa s sa true rp t, z)) rfl).trans ?_
        exact jev_fin rfl
      · refine (jev_blk 3 (pc' := if 9 < x2 then 16 else 11) (L' := ([some (.ref 0), some (.int x1), some (.int x2), some (.int x3), d4, d5], [])) (S' := []) (h' := (jX f g n2 p pa s sa true rp t, z)) rfl).trans (jev_ite.trans (jite_congr (fun _ => ?_) (fun _ => ?_)))
        · refine (jev_blk 1 (pc' := 17) (L' := ([some (.ref 0), some (.int x1), some (.int x2), some (.int x3), d4, d5], [])) (S' := [.int (-1)]) (h' := (jX f g n2 p pa s sa true rp t, z)) rfl).trans ?_
          exact jev_fin rfl
        · refine (jev_blk 2 (pc' := if x3 < 0 then 16 else 13) (L' := ([some (.ref 0), some (.int x1), some (.int x2), some (.int x3), d4, d5], [])) (S' := []) (h' := (jX f g n2 p pa s sa true rp t, z)) rfl).trans (jev_ite.trans (jite_congr (fun _ => ?_) (fun _ => ?_)))
          · refine (jev_blk 1 (pc' := 17) (L' := ([some (.ref 0), some (.int x1), some (.int x2), some (.int x3), d4, d5], [])) (S' := [.int (-1)]) (h' := (jX f g n2 p pa s sa true rp t, z)) rfl).trans ?_
            exact jev_fin rfl
          · refine (jev_blk 3 (pc' := if 1 < x3 then 16 else 18) (L' := ([some (.ref 0), some (.int x1), some (.int x2), some (.int x3), d4, d5], [])) (S' := []) (h' := (jX f g n2 p pa s sa true rp t, z)) rfl).trans (jev_ite.trans (jite_congr (fun _ => ?_) (fun _ => ?_)))
            · refine (jev_blk 1 (pc' := 17) (L' := ([some (.ref 0), some (.int x1), some (.int x2), some (.int x3), d4, d5], [])) (S' := [.int (-1)]) (h' := (jX f g n2 p pa s sa true rp t, z)) rfl).trans ?_
              exact jev_fin rfl
            · refine (jev_blk 4 (pc' := 22) (L' := ([some (.ref 0), some (.int x1), some (.int x2), some (.int x3), d4, d5], [])) (S' := [.ref 49, .ref 61]) (h' := (jX f g n2 p pa s sa true rp t, z)) rfl).trans ?_
              exact jev_callb (nx := 23) (rest := []) rfl
set_option maxRecDepth 20000 in
theorem E_c_costs_23 {D : Nat}  {x1 : Int32} {x2 : Int32} {x3 : Int32} {d4 : Option Value} {d5 : Option Value} {f : Nat → Int32} {g : Nat → Nat → Int32} {n2 : Nat → Nat → Int64} {p : Nat → Nat → Int32} {pa : Nat → Nat → Nat → Int32} {s : Nat → Nat → Int32} {sa : Nat → Nat → Nat → Int32} {sw : Bool} {rp : Value} {t : List jE} {z : Nat × Nat × Nat × (Nat → Int32)}  : jev D 121 23 ([some (.ref 0), some (.int x1), some (.int x2), some (.int x3), d4, d5], []) [] (jX f g n2 p pa s sa sw rp t, z) = jbO (K_h_passDays D 2 x2 f g n2 p pa (jup s 2 (jup (s 2) 2 (((s 2 2) ||| (1 <<< (x1 &&& 31)))))) sa sw rp t z) (jk D 121 38 ([some (.ref 0), some (.int x1), some (.int x2), some (.int x3), d4, d5], []) []) := by
  cases sw
  · refine (jev_blk 14 (pc' := 37) (L' := ([some (.ref 0), some (.int x1), some (.int x2), some (.int x3), d4, d5], [])) (S' := [.int x2, .ref 61, .ref 43]) (h' := (jX f g n2 p pa (jup s 2 (jup (s 2) 2 (((s 2 2) ||| (1 <<< (x1 &&& 31)))))) sa false rp t, z)) rfl).trans ?_
    exact jev_callb (nx := 38) (rest := []) rfl
  · refine (jev_blk 14 (pc' := 37) (L' := ([some (.ref 0), some (.int x1), some (.int x2), some (.int x3), d4, d5], [])) (S' := [.int x2, .ref 61, .ref 43]) (h' := (jX f g n2 p pa (jup s 2 (jup (s 2) 2 (((s 2 2) ||| (1 <<< (x1 &&& 31)))))) sa true rp t, z)) rfl).trans ?_
    exact jev_callb (nx := 38) (rest := []) rfl
set_option maxRecDepth 20000 in
theorem E_c_costs_38 {D : Nat}  {x1 : Int32} {x2 : Int32} {x3 : Int32} {d4 : Option Value} {d5 : Option Value} {f : Nat → Int32} {g : Nat → Nat → Int32} {n2 : Nat → Nat → Int64} {p : Nat → Nat → Int32} {pa : Nat → Nat → Nat → Int32} {s : Nat → Nat → Int32} {sa : Nat → Nat → Nat → Int32} {sw : Bool} {rp : Value} {t : List jE} {z : Nat × Nat × Nat × (Nat → Int32)}  : jev D 121 38 ([some (.ref 0), some (.int x1), some (.int x2), some (.int x3), d4, d5], []) [] (jX f g n2 p pa s sa sw rp t, z) = jbO (K_s_follow20 D f g n2 p pa s sa sw rp t z) (jk D 121 51 ([some (.ref 0), some (.int x1), some (.int x2), some (.int x3), some (.int (s 2 3)), some (.int (s 2 4))], []) []) := by
  cases sw
  · refine (jev_blk 12 (pc' := 50) (L' := ([some (.ref 0), some (.int x1), some (.int x2), some (.int x3), some (.int (s 2 3)), some (.int (s 2 4))], [])) (S' := [.ref 49, .ref 61]) (h' := (jX f g n2 p pa s sa false rp t, z)) rfl).trans ?_
    exact jev_callb (nx := 51) (rest := []) rfl
  · refine (jev_blk 12 (pc' := 50) (L' := ([some (.ref 0), some (.int x1), some (.int x2), some (.int x3), some (.int (s 2 3)), some (.int (s 2 4))], [])) (S' := [.ref 49, .ref 61]) (h' := (jX f g n2 p pa s sa true rp t, z)) rfl).trans ?_
    exact jev_callb (nx := 51) (rest := []) rfl
set_option maxRecDepth 20000 in
theorem E_c_costs_51 {D : Nat}  {x1 : Int32} {x2 : Int32} {x3 : Int32} {x4 : Int32} {x5 : Int32} {f : Nat → Int32} {g : Nat → Nat → Int32} {n2 : Nat → Nat → Int64} {p : Nat → Nat → Int32} {pa : Nat → Nat → Nat → Int32} {s : Nat → Nat → Int32} {sa : Nat → Nat → Nat → Int32} {sw : Bool} {rp : Value} {t : List jE} {z : Nat × Nat × Nat × (Nat → Int32)}  : jev D 121 51 ([some (.ref 0), some (.int x1), some (.int x2), some (.int x3), some (.int x4), some (.int x5)], []) [] (jX f g n2 p pa s sa sw rp t, z) = jbO (K_h_passDays D 2 x2 f g n2 p pa (jup s 2 (jup (s 2) 2 (((s 2 2) &&& ((1 <<< (x1 &&& 31)) ^^^ (-1)))))) sa sw rp t z) (jk D 121 68 ([some (.ref 0), some (.int x1), some (.int x2), some (.int x3), some (.int x4), some (.int x5)], []) []) := by
  cases sw
  · refine (jev_blk 16 (pc' := 67) (L' := ([some (.ref 0), some (.int x1), some (.int x2), some (.int x3), some (.int x4), some (.int x5)], [])) (S' := [.int x2, .ref 61, .ref 43]) (h' := (jX f g n2 p pa (jup s 2 (jup (s 2) 2 (((s 2 2) &&& ((1 <<< (x1 &&& 31)) ^^^ (-1)))))) sa false rp t, z)) rfl).trans ?_
    exact jev_callb (nx := 68) (rest := []) rfl
  · refine (jev_blk 16 (pc' := 67) (L' := ([some (.ref 0), some (.int x1), some (.int x2), some (.int x3), some (.int x4), some (.int x5)], [])) (S' := [.int x2, .ref 61, .ref 43]) (h' := (jX f g n2 p pa (jup s 2 (jup (s 2) 2 (((s 2 2) &&& ((1 <<< (x1 &&& 31)) ^^^ (-1)))))) sa true rp t, z)) rfl).trans ?_
    exact jev_callb (nx := 68) (rest := []) rfl
set_option maxRecDepth 20000 in
theorem E_c_costs_68 {D : Nat}  {d1 : Option Value} {d2 : Option Value} {x3 : Int32} {x4 : Int32} {x5 : Int32} {f : Nat → Int32} {g : Nat → Nat → Int32} {n2 : Nat → Nat → Int64} {p : Nat → Nat → Int32} {pa : Nat → Nat → Nat → Int32} {s : Nat → Nat → Int32} {sa : Nat → Nat → Nat → Int32} {sw : Bool} {rp : Value} {t : List jE} {z : Nat × Nat × Nat × (Nat → Int32)}  : jev D 121 68 ([some (.ref 0), d1, d2, some (.int x3), some (.int x4), some (.int x5)], []) [] (jX f g n2 p pa s sa sw rp t, z) = if x3 = 0 then (K_c_costs_82 D d1 d2 (some (.int x3)) (some (.int x4)) (some (.int x5)) (x4 - (s 2 3)) 0 f g n2 p pa s sa sw rp t z) else (K_c_costs_82 D d1 d2 (some (.int x3)) (some (.int x4)) (some (.int x5)) ((s 2 4) - x5) 0 f g n2 p pa s sa sw rp t z) := by
  cases sw
  · refine (jev_blk 3 (pc' := if x3 = 0 then 71 else 77) (L' := ([some (.ref 0), d1, d2, some (.int x3), some (.int x4), some (.int x5)], [])) (S' := [.int 0]) (h' := (jX f g n2 p pa s sa false rp t, z)) rfl).trans (jev_ite.trans (jite_congr (fun _ => ?_) (fun _ => ?_)))
    · exact jev_blk 6 rfl
    · exact jev_blk 5 rfl
  · refine (jev_blk 3 (pc' := if x3 = 0 then 71 else 77) (L' := ([some (.ref 0), d1, d2, some (.int x3), some (.int x4), some (.int x5)], [])) (S' := [.int 0]) (h' := (jX f g n2 p pa s sa true rp t, z)) rfl).trans (jev_ite.trans (jite_congr (fun _ => ?_) (fun _ => ?_)))
    · exact jev_blk 6 rfl
    · exact jev_blk 5 rfl
set_option maxRecDepth 20000 in
theorem E_c_costs_82 {D : Nat}  {d1 : Option Value} {d2 : Option Value} {d3 : Option Value} {d4 : Option Value} {d5 : Option Value} {u0 : Int32} {u1 : Int32} {f : Nat → Int32} {g : Nat → Nat → Int32} {n2 : Nat → Nat → Int64} {p : Nat → Nat → Int32} {pa : Nat → Nat → Nat → Int32} {s : Nat → Nat → Int32} {sa : Nat → Nat → Nat → Int32} {sw : Bool} {rp : Value} {t : List jE} {z : Nat × Nat × Nat × (Nat → Int32)}  : K_c_costs_82 D d1 d2 d3 d4 d5 u0 u1 f g n2 p pa s sa sw rp t z = some (.inl (some (.int (if u1 < u0 then u0 else u1))), (jX f g n2 p pa s sa sw rp t, z)) := by
  cases sw
  · refine (jev_prim (a := 7) (As := [.int u1, .int u0]) (nx := 83) (rest := []) rfl (r := some (.int (if u1 < u0 then u0 else u1))) (h' := (jX f g n2 p pa s sa false rp t, z)) rfl).trans ?_
    exact jev_fin rfl
  · refine (jev_prim (a := 7) (As := [.int u1, .int u0]) (nx := 83) (rest := []) rfl (r := some (.int (if u1 < u0 then u0 else u1))) (h' := (jX f g n2 p pa s sa true rp t, z)) rfl).trans ?_
    exact jev_fin rfl
set_option maxRecDepth 20000 in
theorem E_c_both {D : Nat}  {a0 : Int32} {a1 : Int32} {a2 : Int32} {f : Nat → Int32} {g : Nat → Nat → Int32} {n2 : Nat → Nat → Int64} {p : Nat → Nat → Int32} {pa : Nat → Nat → Nat → Int32} {s : Nat → Nat → Int32} {sa : Nat → Nat → Nat → Int32} {sw : Bool} {rp : Value} {t : List jE} {z : Nat × Nat × Nat × (Nat → Int32)}  : K_c_both D a0 a1 a2 f g n2 p pa s sa sw rp t z = jbO (K_p_hasScare D sw a0 f g n2 p pa s sa sw rp t z) (jk D 122 4 ([some (.ref 0), some (.int a0), some (.int a1), some (.int a2)], []) []) := by
  cases sw
  · refine (jev_blk 3 (pc' := 3) (L' := ([some (.ref 0), some (.int a0), some (.int a1), some (.int a2)], [])) (S' := [.int a0, .ref (jpl false)]) (h' := (jX f g n2 p pa s sa false rp t, z)) rfl).trans ?_
    exact jev_callb (nx := 4) (rest := []) rfl
  · refine (jev_blk 3 (pc' := 3) (L' := ([some (.ref 0), some (.int a0), some (.int a1), some (.int a2)], [])) (S' := [.int a0, .ref (jpl true)]) (h' := (jX f g n2 p pa s sa true rp t, z)) rfl).trans ?_
    exact jev_callb (nx := 4) (rest := []) rfl
set_option maxRecDepth 20000 in
theorem E_c_both_4 {D : Nat}  {x1 : Int32} {x2 : Int32} {x3 : Int32} {u0 : Int32} {f : Nat → Int32} {g : Nat → Nat → Int32} {n2 : Nat → Nat → Int64} {p : Nat → Nat → Int32} {pa : Nat → Nat → Nat → Int32} {s : Nat → Nat → Int32} {sa : Nat → Nat → Nat → Int32} {sw : Bool} {rp : Value} {t : List jE} {z : Nat × Nat × Nat × (Nat → Int32)}  : jev D 122 4 ([some (.ref 0), some (.int x1), some (.int x2), some (.int x3)], []) [.int u0] (jX f g n2 p pa s sa sw rp t, z) = if u0 = 0 then (some (.inl (some (.int (-1))), (jX f g n2 p pa s sa sw rp t, z))) else (jbO (K_p_hasScare D sw x2 f g n2 p pa s sa sw rp t z) (jk D 122 9 ([some (.ref 0), some (.int x1), some (.int x2), some (.int x3)], []) [])) := by
  cases sw
  · refine (jev_blk 1 (pc' := if u0 = 0 then 13 else 5) (L' := ([some (.ref 0), some (.int x1), some (.int x2), some (.int x3)], [])) (S' := []) (h' := (jX f g n2 p pa s sa false rp t, z)) rfl).trans (jev_ite.trans (jite_congr (fun _ => ?_) (fun _ => ?_)))
    · refine (jev_blk 1 (pc' := 14) (L' := ([some (.ref 0), some (.int x1), some (.int x2), some (.int x3)], [])) (S' := [.int (-1)]) (h' := (jX f g n2 p pa s sa false rp t, z)) rfl).trans ?_
      exact jev_fin rfl
    · refine (jev_blk 3 (pc' := 8) (L' := ([some (.ref 0), some (.int x1), some (.int x2), some (.int x3)], [])) (S' := [.int x2, .ref (jpl false)]) (h' := (jX f g n2 p pa s sa false rp t, z)) rfl).trans ?_
      exact jev_callb (nx := 9) (rest := []) rfl
  · refine (jev_blk 1 (pc' := if u0 = 0 then 13 else 5) (L' := ([some (.ref 0), some (.int x1), some (.int x2), some (.int x3)], [])) (S' := []) (h' := (jX f g n2 p pa s sa true rp t, z)) rfl).trans (jev_ite.trans (jite_congr (fun _ => ?_) (fun _ => ?_)))
    · refine (jev_blk 1 (pc' := 14) (L' := ([some (.ref 0), some (.int x1), some (.int x2), some (.int x3)], [])) (S' := [.int (-1)]) (h' := (jX f g n2 p pa s sa true rp t, z)) rfl).trans ?_
      exact jev_fin rfl
    · refine (jev_blk 3 (pc' := 8) (L' := ([some (.ref 0), some (.int x1), some (.int x2), some (.int x3)], [])) (S' := [.int x2, .ref (jpl true)]) (h' := (jX f g n2 p pa s sa true rp t, z)) rfl).trans ?_
      exact jev_callb (nx := 9) (rest := []) rfl
set_option maxRecDepth 20000 in
theorem E_c_both_9 {D : Nat}  {x1 : Int32} {x2 : Int32} {x3 : Int32} {u0 : Int32} {f : Nat → Int32} {g : Nat → Nat → Int32} {n2 : Nat → Nat → Int64} {p : Nat → Nat → Int32} {pa : Nat → Nat → Nat → Int32} {s : Nat → Nat → Int32} {sa : Nat → Nat → Nat → Int32} {sw : Bool} {rp : Value} {t : List jE} {z : Nat × Nat × Nat × (Nat → Int32)}  : jev D 122 9 ([some (.ref 0), some (.int x1), some (.int x2), some (.int x3)], []) [.int u0] (jX f g n2 p pa s sa sw rp t, z) = if u0 = 0 then (some (.inl (some (.int (-1))), (jX f g n2 p pa s sa sw rp t, z))) else (if x1 = x2 then (some (.inl (some (.int (-1))), (jX f g n2 p pa s sa sw rp t, z))) else (if x3 = 0 then (if jout x1 6 then none else (if jout x2 6 then none else (some (.inl (some (.int ((sa 0 2 x1.toNatClampNeg) &&& (sa 0 2 x2.toNatClampNeg)))), (jX f g n2 p pa s sa sw rp t, z))))) else (if x3 = 1 then (jbO (K_h_seenBy D 0 x1 f g n2 p pa s sa sw rp t z) (jk D 122 37 ([some (.ref 0), some (.int x1), some (.int x2), some (.int x3)], []) [.ref 49])) else (some (.inl (some (.int (-1))), (jX f g n2 p pa s sa sw rp t, z)))))) := by
  cases sw
  · refine (jev_blk 1 (pc' := if u0 = 0 then 13 else 10) (L' := ([some (.ref 0), some (.int x1), some (.int x2), some (.int x3)], [])) (S' := []) (h' := (jX f g n2 p pa s sa false rp t, z)) rfl).trans (jev_ite.trans (jite_congr (fun _ => ?_) (fun _ => ?_)))
    · refine (jev_blk 1 (pc' := 14) (L' := ([some (.ref 0), some (.int x1), some (.int x2), some (.int x3)], [])) (S' := [.int (-1)]) (h' := (jX f g n2 p pa s sa false rp t, z)) rfl).trans ?_
      exact jev_fin rfl
    · refine (jev_blk 3 (pc' := if x1 = x2 then 13 else 15) (L' := ([some (.ref 0), some (.int x1), some (.int x2), some (.int x3)], [])) (S' := []) (h' := (jX f g n2 p pa s sa false rp t, z)) rfl).trans (jev_ite.trans (jite_congr (fun _ => ?_) (fun _ => ?_)))
      · refine (jev_blk 1 (pc' := 14) (L' := ([some (.ref 0), some (.int x1), some (.int x2), some (.int x3)], [])) (S' := [.int (-1)]) (h' := (jX f g n2 p pa s sa false rp t, z)) rfl).trans ?_
        exact jev_fin rfl
      · refine (jev_blk 2 (pc' := if x3 = 0 then 17 else if x3 = 1 then 29 else 46) (L' := ([some (.ref 0), some (.int x1), some (.int x2), some (.int x3)], [])) (S' := []) (h' := (jX f g n2 p pa s sa false rp t, z)) rfl).trans ?_
        refine jev_ite.trans (jite_congr (fun _ => ?_) (fun _ => ?_))
        · refine (jev_blk 4 (pc' := 21) (L' := ([some (.ref 0), some (.int x1), some (.int x2), some (.int x3)], [])) (S' := [.int x1, .ref 52]) (h' := (jX f g n2 p pa s sa false rp t, z)) rfl).trans ?_
          refine (jev_grd (q := jout x1 6) (pc' := 22) (L' := ([some (.ref 0), some (.int x1), some (.int x2), some (.int x3)], [])) (S' := [.int (sa 0 2 x1.toNatClampNeg)]) (h' := (jX f g n2 p pa s sa false rp t, z)) rfl).trans (jite_congr (fun _ => rfl) (fun _ => ?_))
          refine (jev_blk 4 (pc' := 26) (L' := ([some (.ref 0), some (.int x1), some (.int x2), some (.int x3)], [])) (S' := [.int x2, .ref 52, .int (sa 0 2 x1.toNatClampNeg)]) (h' := (jX f g n2 p pa s sa false rp t, z)) rfl).trans ?_
          refine (jev_grd (q := jout x2 6) (pc' := 27) (L' := ([some (.ref 0), some (.int x1), some (.int x2), some (.int x3)], [])) (S' := [.int (sa 0 2 x2.toNatClampNeg), .int (sa 0 2 x1.toNatClampNeg)]) (h' := (jX f g n2 p pa s sa false rp t, z)) rfl).trans (jite_congr (fun _ => rfl) (fun _ => ?_))
          refine (jev_blk 1 (pc' := 28) (L' := ([some (.ref 0), some (.int x1), some (.int x2), some (.int x3)], [])) (S' := [.int ((sa 0 2 x1.toNatClampNeg) &&& (sa 0 2 x2.toNatClampNeg))]) (h' := (jX f g n2 p pa s sa false rp t, z)) rfl).trans ?_
          exact jev_fin rfl
        · refine jev_ite.trans (jite_congr (fun _ => ?_) (fun _ => ?_))
          · refine (jev_blk 7 (pc' := 36) (L' := ([some (.ref 0), some (.int x1), some (.int x2), some (.int x3)], [])) (S' := [.int x1, .ref 49, .ref 43, .ref 49]) (h' := (jX f g n2 p pa s sa false rp t, z)) rfl).trans ?_
            exact jev_callb (nx := 37) (rest := [.ref 49]) rfl
          · refine (jev_blk 1 (pc' := 47) (L' := ([some (.ref 0), some (.int x1), some (.int x2), some (.int x3)], [])) (S' := [.int (-1)]) (h' := (jX f g n2 p pa s sa false rp t, z)) rfl).trans ?_
            exact jev_fin rfl
  · refine (jev_blk 1 (pc' := if u0 = 0 then 13 else 10) (L' := ([some (.ref 0), some (.int x1), some (.int x2), some (.int x3)], [])) (S' := []) (h' := (jX f g n2 p pa s sa true rp t, z)) rfl).trans (jev_ite.trans (jite_congr (fun _ => ?_) (fun _ => ?_)))
    · refine (jev_blk 1 (pc' := 14) (L' := ([some (.ref 0), some (.int x1), some (.int x2), some (.int x3)], [])) (S' := [.int (-1)]) (h' := (jX f g n2 p pa s sa true rp t, z)) rfl).trans ?_
      exact jev_fin rfl
    · refine (jev_blk 3 (pc' := if x1 = x2 then 13 else 15) (L' := ([some (.ref 0), some (.int x1), some (.int x2), some (.int x3)], [])) (S' := []) (h' := (jX f g n2 p pa s sa true rp t, z)) rfl).trans (jev_ite.trans (jite_congr (fun _ => ?_) (fun _ => ?_)))
      · refine (jev_blk 1 (pc' := 14) (L' := ([some (.ref 0), some (.int x1), some (.int x2), some (.int x3)], [])) (S' := [.int (-1)]) (h' := (jX f g n2 p pa s sa true rp t, z)) rfl).trans ?_
        exact jev_fin rfl
      · refine (jev_blk 2 (pc' := if x3 = 0 then 17 else if x3 = 1 then 29 else 46) (L' := ([some (.ref 0), some (.int x1), some (.int x2), some (.int x3)], [])) (S' := []) (h' := (jX f g n2 p pa s sa true rp t, z)) rfl).trans ?_
        refine jev_ite.trans (jite_congr (fun _ => ?_) (fun _ => ?_))
        · refine (jev_blk 4 (pc' := 21) (L' := ([some (.ref 0), some (.int x1), some (.int x2), some (.int x3)], [])) (S' := [.int x1, .ref 52]) (h' := (jX f g n2 p pa s sa true rp t, z)) rfl).trans ?_
          refine (jev_grd (q := jout x1 6) (pc' := 22) (L' := ([some (.ref 0), some (.int x1), some (.int x2), some (.int x3)], [])) (S' := [.int (sa 0 2 x1.toNatClampNeg)]) (h' := (jX f g n2 p pa s sa true rp t, z)) rfl).trans (jite_congr (fun _ => rfl) (fun _ => ?_))
          refine (jev_blk 4 (pc' := 26) (L' := ([some (.ref 0), some (.int x1), some (.int x2), some (.int x3)], [])) (S' := [.int x2, .ref 52, .int (sa 0 2 x1.toNatClampNeg)]) (h' := (jX f g n2 p pa s sa true rp t, z)) rfl).trans ?_
          refine (jev_grd (q := jout x2 6) (pc' := 27) (L' := ([some (.ref 0), some (.int x1), some (.int x2), some (.int x3)], [])) (S' := [.int (sa 0 2 x2.toNatClampNeg), .int (sa 0 2 x1.toNatClampNeg)]) (h' := (jX f g n2 p pa s sa true rp t, z)) rfl).trans (jite_congr (fun _ => rfl) (fun _ => ?_))
          refine (jev_blk 1 (pc' := 28) (L' := ([some (.ref 0), some (.int x1), some (.int x2), some (.int x3)], [])) (S' := [.int ((sa 0 2 x1.toNatClampNeg) &&& (sa 0 2 x2.toNatClampNeg))]) (h' := (jX f g n2 p pa s sa true rp t, z)) rfl).trans ?_
          exact jev_fin rfl
        · refine jev_ite.trans (jite_congr (fun _ => ?_) (fun _ => ?_))
          · refine (jev_blk 7 (pc' := 36) (L' := ([some (.ref 0), some (.int x1), some (.int x2), some (.int x3)], [])) (S' := [.int x1, .ref 49, .ref 43, .ref 49]) (h' := (jX f g n2 p pa s sa true rp t, z)) rfl).trans ?_
            exact jev_callb (nx := 37) (rest := [.ref 49]) rfl
          · refine (jev_blk 1 (pc' := 47) (L' := ([some (.ref 0), some (.int x1), some (.int x2), some (.int x3)], [])) (S' := [.int (-1)]) (h' := (jX f g n2 p pa s sa true rp t, z)) rfl).trans ?_
            exact jev_fin rfl
set_option maxRecDepth 20000 in
theorem E_c_both_37 {D : Nat}  {d1 : Option Value} {x2 : Int32} {d3 : Option Value} {u0 : Int32} {f : Nat → Int32} {g : Nat → Nat → Int32} {n2 : Nat → Nat → Int64} {p : Nat → Nat → Int32} {pa : Nat → Nat → Nat → Int32} {s : Nat → Nat → Int32} {sa : Nat → Nat → Nat → Int32} {sw : Bool} {rp : Value} {t : List jE} {z : Nat × Nat × Nat × (Nat → Int32)}  : jev D 122 37 ([some (.ref 0), d1, some (.int x2), d3], []) [.int u0, .ref 49] (jX f g n2 p pa s sa sw rp t, z) = jbO (K_h_seenBy D 0 x2 f g n2 p pa s sa sw rp t z) (jk D 122 43 ([some (.ref 0), d1, some (.int x2), d3], []) [.int u0, .ref 49]) := by
  cases sw
  · refine (jev_blk 5 (pc' := 42) (L' := ([some (.ref 0), d1, some (.int x2), d3], [])) (S' := [.int x2, .ref 49, .ref 43, .int u0, .ref 49]) (h' := (jX f g n2 p pa s sa false rp t, z)) rfl).trans ?_
    exact jev_callb (nx := 43) (rest := [.int u0, .ref 49]) rfl
  · refine (jev_blk 5 (pc' := 42) (L' := ([some (.ref 0), d1, some (.int x2), d3], [])) (S' := [.int x2, .ref 49, .ref 43, .int u0, .ref 49]) (h' := (jX f g n2 p pa s sa true rp t, z)) rfl).trans ?_
    exact jev_callb (nx := 43) (rest := [.int u0, .ref 49]) rfl
set_option maxRecDepth 20000 in
theorem E_c_both_43 {D : Nat}  {d1 : Option Value} {d2 : Option Value} {d3 : Option Value} {u0 : Int32} {u1 : Int32} {f : Nat → Int32} {g : Nat → Nat → Int32} {n2 : Nat → Nat → Int64} {p : Nat → Nat → Int32} {pa : Nat → Nat → Nat → Int32} {s : Nat → Nat → Int32} {sa : Nat → Nat → Nat → Int32} {sw : Bool} {rp : Value} {t : List jE} {z : Nat × Nat × Nat × (Nat → Int32)}  : jev D 122 43 ([some (.ref 0), d1, d2, d3], []) [.int u0, .int u1, .ref 49] (jX f g n2 p pa s sa sw rp t, z) = jbO (K_s_cropOf D 0 (u1 &&& u0) f g n2 p pa s sa sw rp t z) (jk D 122 45 ([some (.ref 0), d1, d2, d3], []) []) := by
  cases sw
  · refine (jev_blk 1 (pc' := 44) (L' := ([some (.ref 0), d1, d2, d3], [])) (S' := [.int (u1 &&& u0), .ref 49]) (h' := (jX f g n2 p pa s sa false rp t, z)) rfl).trans ?_
    exact jev_callb (nx := 45) (rest := []) rfl
  · refine (jev_blk 1 (pc' := 44) (L' := ([some (.ref 0), d1, d2, d3], [])) (S' := [.int (u1 &&& u0), .ref 49]) (h' := (jX f g n2 p pa s sa true rp t, z)) rfl).trans ?_
    exact jev_callb (nx := 45) (rest := []) rfl
set_option maxRecDepth 20000 in
theorem E_c_both_45 {D : Nat}  {d1 : Option Value} {d2 : Option Value} {d3 : Option Value} {u0 : Int32} {f : Nat → Int32} {g : Nat → Nat → Int32} {n2 : Nat → Nat → Int64} {p : Nat → Nat → Int32} {pa : Nat → Nat → Nat → Int32} {s : Nat → Nat → Int32} {sa : Nat → Nat → Nat → Int32} {sw : Bool} {rp : Value} {t : List jE} {z : Nat × Nat × Nat × (Nat → Int32)}  : jev D 122 45 ([some (.ref 0), d1, d2, d3], []) [.int u0] (jX f g n2 p pa s sa sw rp t, z) = some (.inl (some (.int u0)), (jX f g n2 p pa s sa sw rp t, z)) := by
  cases sw
  · exact jev_fin rfl
  · exact jev_fin rfl
set_option maxRecDepth 20000 in
theorem E_c_expects {D : Nat}  {a0 : Int32} {f : Nat → Int32} {g : Nat → Nat → Int32} {n2 : Nat → Nat → Int64} {p : Nat → Nat → Int32} {pa : Nat → Nat → Nat → Int32} {s : Nat → Nat → Int32} {sa : Nat → Nat → Nat → Int32} {sw : Bool} {rp : Value} {t : List jE} {z : Nat × Nat × Nat × (Nat → Int32)}  : K_c_expects D a0 f g n2 p pa s sa sw rp t z = if a0 < 0 then (some (.inl (some (.int (-1))), (jX f g n2 p pa s sa sw rp t, z))) else (if a0 < 12 then (jbO (K_s_ripe D 0 f g n2 p pa s sa sw rp t z) (jk D 123 10 ([some (.ref 0), some (.int a0)], []) [])) else (some (.inl (some (.int (-1))), (jX f g n2 p pa s sa sw rp t, z)))) := by
  cases sw
  · refine (jev_blk 2 (pc' := if a0 < 0 then 5 else 2) (L' := ([some (.ref 0), some (.int a0)], [])) (S' := []) (h' := (jX f g n2 p pa s sa false rp t, z)) rfl).trans (jev_ite.trans (jite_congr (fun _ => ?_) (fun _ => ?_)))
    · refine (jev_blk 2 (pc' := 18) (L' := ([some (.ref 0), some (.int a0)], [])) (S' := [.int (-1)]) (h' := (jX f g n2 p pa s sa false rp t, z)) rfl).trans ?_
      exact jev_fin rfl
    · refine (jev_blk 3 (pc' := if a0 < 12 then 7 else 5) (L' := ([some (.ref 0), some (.int a0)], [])) (S' := []) (h' := (jX f g n2 p pa s sa false rp t, z)) rfl).trans (jev_ite.trans (jite_congr (fun _ => ?_) (fun _ => ?_)))
      · refine (jev_blk 2 (pc' := 9) (L' := ([some (.ref 0), some (.int a0)], [])) (S' := [.ref 49]) (h' := (jX f g n2 p pa s sa false rp t, z)) rfl).trans ?_
        exact jev_callb (nx := 10) (rest := []) rfl
      · refine (jev_blk 2 (pc' := 18) (L' := ([some (.ref 0), some (.int a0)], [])) (S' := [.int (-1)]) (h' := (jX f g n2 p pa s sa false rp t, z)) rfl).trans ?_
        exact jev_fin rfl
  · refine (jev_blk 2 (pc' := if a0 < 0 then 5 else 2) (L' := ([some (.ref 0), some (.int a0)], [])) (S' := []) (h' := (jX f g n2 p pa s sa true rp t, z)) rfl).trans (jev_ite.trans (jite_congr (fun _ => ?_) (fun _ => ?_)))
    · refine (jev_blk 2 (pc' := 18) (L' := ([some (.ref 0), some (.int a0)], [])) (S' := [.int (-1)]) (h' := (jX f g n2 p pa s sa true rp t, z)) rfl).trans ?_
      exact jev_fin rfl
    · refine (jev_blk 3 (pc' := if a0 < 12 then 7 else 5) (L' := ([some (.ref 0), some (.int a0)], [])) (S' := []) (h' := (jX f g n2 p pa s sa true rp t, z)) rfl).trans (jev_ite.trans (jite_congr (fun _ => ?_) (fun _ => ?_)))
      · refine (jev_blk 2 (pc' := 9) (L' := ([some (.ref 0), some (.int a0)], [])) (S' := [.ref 49]) (h' := (jX f g n2 p pa s sa true rp t, z)) rfl).trans ?_
        exact jev_callb (nx := 10) (rest := []) rfl
      · refine (jev_blk 2 (pc' := 18) (L' := ([some (.ref 0), some (.int a0)], [])) (S' := [.int (-1)]) (h' := (jX f g n2 p pa s sa true rp t, z)) rfl).trans ?_
        exact jev_fin rfl
set_option maxRecDepth 20000 in
theorem E_c_expects_10 {D : Nat}  {x1 : Int32} {u0 : Int32} {f : Nat → Int32} {g : Nat → Nat → Int32} {n2 : Nat → Nat → Int64} {p : Nat → Nat → Int32} {pa : Nat → Nat → Nat → Int32} {s : Nat → Nat → Int32} {sa : Nat → Nat → Nat → Int32} {sw : Bool} {rp : Value} {t : List jE} {z : Nat × Nat × Nat × (Nat → Int32)}  : jev D 123 10 ([some (.ref 0), some (.int x1)], []) [.int u0] (jX f g n2 p pa s sa sw rp t, z) = if jout x1 12 then none else (some (.inl (some (.int (u0 &&& ((sa 0 1 x1.toNatClampNeg) ^^^ (-1))))), (jX f g n2 p pa s sa sw rp t, z))) := by
  cases sw
  · refine (jev_blk 4 (pc' := 14) (L' := ([some (.ref 0), some (.int x1)], [])) (S' := [.int x1, .ref 51, .int u0]) (h' := (jX f g n2 p pa s sa false rp t, z)) rfl).trans ?_
    refine (jev_grd (q := jout x1 12) (pc' := 15) (L' := ([some (.ref 0), some (.int x1)], [])) (S' := [.int (sa 0 1 x1.toNatClampNeg), .int u0]) (h' := (jX f g n2 p pa s sa false rp t, z)) rfl).trans (jite_congr (fun _ => rfl) (fun _ => ?_))
    refine (jev_blk 3 (pc' := 18) (L' := ([some (.ref 0), some (.int x1)], [])) (S' := [.int (u0 &&& ((sa 0 1 x1.toNatClampNeg) ^^^ (-1)))]) (h' := (jX f g n2 p pa s sa false rp t, z)) rfl).trans ?_
    exact jev_fin rfl
  · refine (jev_blk 4 (pc' := 14) (L' := ([some (.ref 0), some (.int x1)], [])) (S' := [.int x1, .ref 51, .int u0]) (h' := (jX f g n2 p pa s sa true rp t, z)) rfl).trans ?_
    refine (jev_grd (q := jout x1 12) (pc' := 15) (L' := ([some (.ref 0), some (.int x1)], [])) (S' := [.int (sa 0 1 x1.toNatClampNeg), .int u0]) (h' := (jX f g n2 p pa s sa true rp t, z)) rfl).trans (jite_congr (fun _ => rfl) (fun _ => ?_))
    refine (jev_blk 3 (pc' := 18) (L' := ([some (.ref 0), some (.int x1)], [])) (S' := [.int (u0 &&& ((sa 0 1 x1.toNatClampNeg) ^^^ (-1)))]) (h' := (jX f g n2 p pa s sa true rp t, z)) rfl).trans ?_
    exact jev_fin rfl
set_option maxRecDepth 20000 in
theorem E_c_idle {D : Nat}   {f : Nat → Int32} {g : Nat → Nat → Int32} {n2 : Nat → Nat → Int64} {p : Nat → Nat → Int32} {pa : Nat → Nat → Nat → Int32} {s : Nat → Nat → Int32} {sa : Nat → Nat → Nat → Int32} {sw : Bool} {rp : Value} {t : List jE} {z : Nat × Nat × Nat × (Nat → Int32)}  : K_c_idle D f g n2 p pa s sa sw rp t z = jbO (K_s_ripe D 0 f g n2 p pa s sa sw rp t z) (jk D 124 3 ([some (.ref 0), none, none, none], []) []) := by
  cases sw
  · refine (jev_blk 2 (pc' := 2) (L' := ([some (.ref 0), none, none, none], [])) (S' := [.ref 49]) (h' := (jX f g n2 p pa s sa false rp t, z)) rfl).trans ?_
    exact jev_callb (nx := 3) (rest := []) rfl
  · refine (jev_blk 2 (pc' := 2) (L' := ([some (.ref 0), none, none, none], [])) (S' := [.ref 49]) (h' := (jX f g n2 p pa s sa true rp t, z)) rfl).trans ?_
    exact jev_callb (nx := 3) (rest := []) rfl
