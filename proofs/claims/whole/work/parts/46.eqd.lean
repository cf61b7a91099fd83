-- EQUATIONS: one a block; E_ unfolds, L_ a loop's head
set_option maxRecDepth 20000 in
theorem E_r_readCompared_29 {D : Nat} {w : Bool} {d1 : Option Value} {x2 : Int32} {u0 : Int32} {f : Nat → Int32} {g : Nat → Nat → Int32} {n2 : Nat → Nat → Int64} {p : Nat → Nat → Int32} {pa : Nat → Nat → Nat → Int32} {s : Nat → Nat → Int32} {sa : Nat → Nat → Nat → Int32} {sw : Bool} {t : List jE} {z : Nat × Nat × Nat × (Nat → Int32)}  : jev D 69 29 ([some (.ref 1), d1, some (.int x2)], []) [.int u0] (jX f g n2 p pa s sa sw (.ref (jpl w)) t, z) = if u0 = 0 then (some (.inl (some (.int 0)), (jX f g n2 p pa s sa sw (.ref (jpl w)) t, z))) else (jbO (K_r_emit D w x2 0 f g n2 p pa s sa sw t z) (jk D 69 34 ([some (.ref 1), d1, some (.int x2)], []) [])) := by
  cases w
  · refine (jev_blk 1 (pc' := if u0 = 0 then 37 else 30) (L' := ([some (.ref 1), d1, some (.int x2)], [])) (S' := []) (h' := (jX f g n2 p pa s sa sw (.ref (jpl false)) t, z)) rfl).trans (jev_ite.trans (jite_congr (fun _ => ?_) (fun _ => ?_)))
    · refine (jev_blk 1 (pc' := 38) (L' := ([some (.ref 1), d1, some (.int x2)], [])) (S' := [.int 0]) (h' := (jX f g n2 p pa s sa sw (.ref (jpl false)) t, z)) rfl).trans ?_
      exact jev_fin rfl
    · refine (jev_blk 3 (pc' := 33) (L' := ([some (.ref 1), d1, some (.int x2)], [])) (S' := [.int 0, .int x2, .ref 1]) (h' := (jX f g n2 p pa s sa sw (.ref (jpl false)) t, z)) rfl).trans ?_
      exact jev_callb (nx := 34) (rest := []) rfl
  · refine (jev_blk 1 (pc' := if u0 = 0 then 37 else 30) (L' := ([some (.ref 1), d1, some (.int x2)], [])) (S' := []) (h' := (jX f g n2 p pa s sa sw (.ref (jpl true)) t, z)) rfl).trans (jev_ite.trans (jite_congr (fun _ => ?_) (fun _ => ?_)))
    · refine (jev_blk 1 (pc' := 38) (L' := ([some (.ref 1), d1, some (.int x2)], [])) (S' := [.int 0]) (h' := (jX f g n2 p pa s sa sw (.ref (jpl true)) t, z)) rfl).trans ?_
      exact jev_fin rfl
    · refine (jev_blk 3 (pc' := 33) (L' := ([some (.ref 1), d1, some (.int x2)], [])) (S' := [.int 0, .int x2, .ref 1]) (h' := (jX f g n2 p pa s sa sw (.ref (jpl true)) t, z)) rfl).trans ?_
      exact jev_callb (nx := 34) (rest := []) rfl
set_option maxRecDepth 20000 in
theorem E_r_readCompared_34 {D : Nat} {w : Bool} {d1 : Option Value} {d2 : Option Value} {u0 : Int32} {f : Nat → Int32} {g : Nat → Nat → Int32} {n2 : Nat → Nat → Int64} {p : Nat → Nat → Int32} {pa : Nat → Nat → Nat → Int32} {s : Nat → Nat → Int32} {sa : Nat → Nat → Nat → Int32} {sw : Bool} {t : List jE} {z : Nat × Nat × Nat × (Nat → Int32)}  : jev D 69 34 ([some (.ref 1), d1, d2], []) [.int u0] (jX f g n2 p pa s sa sw (.ref (jpl w)) t, z) = if u0 = 0 then (some (.inl (some (.int 0)), (jX f g n2 p pa s sa sw (.ref (jpl w)) t, z))) else (some (.inl (some (.int 1)), (jX f g n2 p pa s sa sw (.ref (jpl w)) t, z))) := by
  cases w
  · refine (jev_blk 1 (pc' := if u0 = 0 then 37 else 35) (L' := ([some (.ref 1), d1, d2], [])) (S' := []) (h' := (jX f g n2 p pa s sa sw (.ref (jpl false)) t, z)) rfl).trans (jev_ite.trans (jite_congr (fun _ => ?_) (fun _ => ?_)))
    · refine (jev_blk 1 (pc' := 38) (L' := ([some (.ref 1), d1, d2], [])) (S' := [.int 0]) (h' := (jX f g n2 p pa s sa sw (.ref (jpl false)) t, z)) rfl).trans ?_
      exact jev_fin rfl
    · refine (jev_blk 2 (pc' := 38) (L' := ([some (.ref 1), d1, d2], [])) (S' := [.int 1]) (h' := (jX f g n2 p pa s sa sw (.ref (jpl false)) t, z)) rfl).trans ?_
      exact jev_fin rfl
  · refine (jev_blk 1 (pc' := if u0 = 0 then 37 else 35) (L' := ([some (.ref 1), d1, d2], [])) (S' := []) (h' := (jX f g n2 p pa s sa sw (.ref (jpl true)) t, z)) rfl).trans (jev_ite.trans (jite_congr (fun _ => ?_) (fun _ => ?_)))
    · refine (jev_blk 1 (pc' := 38) (L' := ([some (.ref 1), d1, d2], [])) (S' := [.int 0]) (h' := (jX f g n2 p pa s sa sw (.ref (jpl true)) t, z)) rfl).trans ?_
      exact jev_fin rfl
    · refine (jev_blk 2 (pc' := 38) (L' := ([some (.ref 1), d1, d2], [])) (S' := [.int 1]) (h' := (jX f g n2 p pa s sa sw (.ref (jpl true)) t, z)) rfl).trans ?_
      exact jev_fin rfl
set_option maxRecDepth 20000 in
theorem E_r_readSum {D : Nat} {w : Bool} {a0 : Int32} {f : Nat → Int32} {g : Nat → Nat → Int32} {n2 : Nat → Nat → Int64} {p : Nat → Nat → Int32} {pa : Nat → Nat → Nat → Int32} {s : Nat → Nat → Int32} {sa : Nat → Nat → Nat → Int32} {sw : Bool} {t : List jE} {z : Nat × Nat × Nat × (Nat → Int32)}  : K_r_readSum (D + 1) w a0 f g n2 p pa s sa sw t z = jbO (K_r_readProduct D w a0 f g n2 p pa s sa sw t z) (jk (D + 1) 70 3 ([some (.ref 1), some (.int a0), none, none], []) []) := by
  cases w
  · refine (jev_blk 2 (pc' := 2) (L' := ([some (.ref 1), some (.int a0), none, none], [])) (S' := [.int a0, .ref 1]) (h' := (jX f g n2 p pa s sa sw (.ref (jpl false)) t, z)) rfl).trans ?_
    exact jev_callb (nx := 3) (rest := []) rfl
  · refine (jev_blk 2 (pc' := 2) (L' := ([some (.ref 1), some (.int a0), none, none], [])) (S' := [.int a0, .ref 1]) (h' := (jX f g n2 p pa s sa sw (.ref (jpl true)) t, z)) rfl).trans ?_
    exact jev_callb (nx := 3) (rest := []) rfl
set_option maxRecDepth 20000 in
theorem E_r_readSum_3 {D : Nat} {w : Bool} {x1 : Int32} {d2 : Option Value} {d3 : Option Value} {u0 : Int32} {f : Nat → Int32} {g : Nat → Nat → Int32} {n2 : Nat → Nat → Int64} {p : Nat → Nat → Int32} {pa : Nat → Nat → Nat → Int32} {s : Nat → Nat → Int32} {sa : Nat → Nat → Nat → Int32} {sw : Bool} {t : List jE} {z : Nat × Nat × Nat × (Nat → Int32)}  : jev D 70 3 ([some (.ref 1), some (.int x1), d2, d3], []) [.int u0] (jX f g n2 p pa s sa sw (.ref (jpl w)) t, z) = if u0 = 0 then (some (.inl (some (.int 0)), (jX f g n2 p pa s sa sw (.ref (jpl w)) t, z))) else (K_r_readSum_8 D w x1 0 d3 f g n2 p pa s sa sw t z) := by
  cases w
  · refine (jev_blk 1 (pc' := if u0 = 0 then 4 else 6) (L' := ([some (.ref 1), some (.int x1), d2, d3], [])) (S' := []) (h' := (jX f g n2 p pa s sa sw (.ref (jpl false)) t, z)) rfl).trans (jev_ite.trans (jite_congr (fun _ => ?_) (fun _ => ?_)))
    · refine (jev_blk 1 (pc' := 5) (L' := ([some (.ref 1), some (.int x1), d2, d3], [])) (S' := [.int 0]) (h' := (jX f g n2 p pa s sa sw (.ref (jpl false)) t, z)) rfl).trans ?_
      exact jev_fin rfl
    · exact jev_blk 2 rfl
  · refine (jev_blk 1 (pc' := if u0 = 0 then 4 else 6) (L' := ([some (.ref 1), some (.int x1), d2, d3], [])) (S' := []) (h' := (jX f g n2 p pa s sa sw (.ref (jpl true)) t, z)) rfl).trans (jev_ite.trans (jite_congr (fun _ => ?_) (fun _ => ?_)))
    · refine (jev_blk 1 (pc' := 5) (L' := ([some (.ref 1), some (.int x1), d2, d3], [])) (S' := [.int 0]) (h' := (jX f g n2 p pa s sa sw (.ref (jpl true)) t, z)) rfl).trans ?_
      exact jev_fin rfl
    · exact jev_blk 2 rfl
set_option maxRecDepth 20000 in
theorem L_r_readSum_8 {D : Nat} {w : Bool} {x1 : Int32} {x2 : Int32} {d3 : Option Value} {f : Nat → Int32} {g : Nat → Nat → Int32} {n2 : Nat → Nat → Int64} {p : Nat → Nat → Int32} {pa : Nat → Nat → Nat → Int32} {s : Nat → Nat → Int32} {sa : Nat → Nat → Nat → Int32} {sw : Bool} {t : List jE} {z : Nat × Nat × Nat × (Nat → Int32)}  : K_r_readSum_8 D w x1 x2 d3 f g n2 p pa s sa sw t z = if 64 < x2 then (some (.inl (some (.int 1)), (jX f g n2 p pa s sa sw (.ref (jpl w)) t, z))) else (jbO (K_k_isSign D 11 f g n2 p pa s sa sw (.ref (jpl w)) t z) (jk D 70 15 ([some (.ref 1), some (.int x1), some (.int x2), d3], []) [])) := by
  cases w
  · refine (jev_blk 3 (pc' := if 64 < x2 then 41 else 11) (L' := ([some (.ref 1), some (.int x1), some (.int x2), d3], [])) (S' := []) (h' := (jX f g n2 p pa s sa sw (.ref (jpl false)) t, z)) rfl).trans (jev_ite.trans (jite_congr (fun _ => ?_) (fun _ => ?_)))
    · refine (jev_blk 1 (pc' := 42) (L' := ([some (.ref 1), some (.int x1), some (.int x2), d3], [])) (S' := [.int 1]) (h' := (jX f g n2 p pa s sa sw (.ref (jpl false)) t, z)) rfl).trans ?_
      exact jev_fin rfl
    · refine (jev_blk 3 (pc' := 14) (L' := ([some (.ref 1), some (.int x1), some (.int x2), d3], [])) (S' := [.int 11, .ref 2]) (h' := (jX f g n2 p pa s sa sw (.ref (jpl false)) t, z)) rfl).trans ?_
      exact jev_callb (nx := 15) (rest := []) rfl
  · refine (jev_blk 3 (pc' := if 64 < x2 then 41 else 11) (L' := ([some (.ref 1), some (.int x1), some (.int x2), d3], [])) (S' := []) (h' := (jX f g n2 p pa s sa sw (.ref (jpl true)) t, z)) rfl).trans (jev_ite.trans (jite_congr (fun _ => ?_) (fun _ => ?_)))
    · refine (jev_blk 1 (pc' := 42) (L' := ([some (.ref 1), some (.int x1), some (.int x2), d3], [])) (S' := [.int 1]) (h' := (jX f g n2 p pa s sa sw (.ref (jpl true)) t, z)) rfl).trans ?_
      exact jev_fin rfl
    · refine (jev_blk 3 (pc' := 14) (L' := ([some (.ref 1), some (.int x1), some (.int x2), d3], [])) (S' := [.int 11, .ref 2]) (h' := (jX f g n2 p pa s sa sw (.ref (jpl true)) t, z)) rfl).trans ?_
      exact jev_callb (nx := 15) (rest := []) rfl
set_option maxRecDepth 20000 in
theorem E_r_readSum_15 {D : Nat} {w : Bool} {x1 : Int32} {x2 : Int32} {d3 : Option Value} {u0 : Int32} {f : Nat → Int32} {g : Nat → Nat → Int32} {n2 : Nat → Nat → Int64} {p : Nat → Nat → Int32} {pa : Nat → Nat → Nat → Int32} {s : Nat → Nat → Int32} {sa : Nat → Nat → Nat → Int32} {sw : Bool} {t : List jE} {z : Nat × Nat × Nat × (Nat → Int32)}  : jev D 70 15 ([some (.ref 1), some (.int x1), some (.int x2), d3], []) [.int u0] (jX f g n2 p pa s sa sw (.ref (jpl w)) t, z) = if u0 = 0 then (jbO (K_k_isSign D 12 f g n2 p pa s sa sw (.ref (jpl w)) t z) (jk D 70 20 ([some (.ref 1), some (.int x1), some (.int x2), d3], []) [])) else (K_r_readSum_21 D w x1 x2 d3 f g n2 p pa s sa sw t z) := by
  cases w
  · refine (jev_blk 1 (pc' := if u0 = 0 then 16 else 21) (L' := ([some (.ref 1), some (.int x1), some (.int x2), d3], [])) (S' := []) (h' := (jX f g n2 p pa s sa sw (.ref (jpl false)) t, z)) rfl).trans (jev_ite.trans (jite_congr (fun _ => ?_) (fun _ => ?_)))
    · refine (jev_blk 3 (pc' := 19) (L' := ([some (.ref 1), some (.int x1), some (.int x2), d3], [])) (S' := [.int 12, .ref 2]) (h' := (jX f g n2 p pa s sa sw (.ref (jpl false)) t, z)) rfl).trans ?_
      exact jev_callb (nx := 20) (rest := []) rfl
    · rfl
  · refine (jev_blk 1 (pc' := if u0 = 0 then 16 else 21) (L' := ([some (.ref 1), some (.int x1), some (.int x2), d3], [])) (S' := []) (h' := (jX f g n2 p pa s sa sw (.ref (jpl true)) t, z)) rfl).trans (jev_ite.trans (jite_congr (fun _ => ?_) (fun _ => ?_)))
    · refine (jev_blk 3 (pc' := 19) (L' := ([some (.ref 1), some (.int x1), some (.int x2), d3], [])) (S' := [.int 12, .ref 2]) (h' := (jX f g n2 p pa s sa sw (.ref (jpl true)) t, z)) rfl).trans ?_
      exact jev_callb (nx := 20) (rest := []) rfl
    · rfl
set_option maxRecDepth 20000 in
theorem E_r_readSum_21 {D : Nat} {w : Bool} {x1 : Int32} {x2 : Int32} {d3 : Option Value} {f : Nat → Int32} {g : Nat → Nat → Int32} {n2 : Nat → Nat → Int64} {p : Nat → Nat → Int32} {pa : Nat → Nat → Nat → Int32} {s : Nat → Nat → Int32} {sa : Nat → Nat → Nat → Int32} {sw : Bool} {t : List jE} {z : Nat × Nat × Nat × (Nat → Int32)}  : K_r_readSum_21 D w x1 x2 d3 f g n2 p pa s sa sw t z = jbO (K_r_takeKnot D w f g n2 p pa s sa sw t z) (jk D 70 27 ([some (.ref 1), some (.int x1), some (.int x2), some (.int (f 12))], []) []) := by
  cases w
  · refine (jev_blk 5 (pc' := 26) (L' := ([some (.ref 1), some (.int x1), some (.int x2), some (.int (f 12))], [])) (S' := [.ref 1]) (h' := (jX f g n2 p pa s sa sw (.ref (jpl false)) t, z)) rfl).trans ?_
    exact jev_callb (nx := 27) (rest := []) rfl
  · refine (jev_blk 5 (pc' := 26) (L' := ([some (.ref 1), some (.int x1), some (.int x2), some (.int (f 12))], [])) (S' := [.ref 1]) (h' := (jX f g n2 p pa s sa sw (.ref (jpl true)) t, z)) rfl).trans ?_
    exact jev_callb (nx := 27) (rest := []) rfl
set_option maxRecDepth 20000 in
theorem E_r_readSum_20 {D : Nat} {w : Bool} {x1 : Int32} {x2 : Int32} {d3 : Option Value} {u0 : Int32} {f : Nat → Int32} {g : Nat → Nat → Int32} {n2 : Nat → Nat → Int64} {p : Nat → Nat → Int32} {pa : Nat → Nat → Nat → Int32} {s : Nat → Nat → Int32} {sa : Nat → Nat → Nat → Int32} {sw : Bool} {t : List jE} {z : Nat × Nat × Nat × (Nat → Int32)}  : jev D 70 20 ([some (.ref 1), some (.int x1), some (.int x2), d3], []) [.int u0] (jX f g n2 p pa s sa sw (.ref (jpl w)) t, z) = if u0 = 0 then (some (.inl (some (.int 1)), (jX f g n2 p pa s sa sw (.ref (jpl w)) t, z))) else (K_r_readSum_21 D w x1 x2 d3 f g n2 p pa s sa sw t z) := by
  cases w
  · refine (jev_blk 1 (pc' := if u0 = 0 then 41 else 21) (L' := ([some (.ref 1), some (.int x1), some (.int x2), d3], [])) (S' := []) (h' := (jX f g n2 p pa s sa sw (.ref (jpl false)) t, z)) rfl).trans (jev_ite.trans (jite_congr (fun _ => ?_) (fun _ => ?_)))
    · refine (jev_blk 1 (pc' := 42) (L' := ([some (.ref 1), some (.int x1), some (.int x2), d3], [])) (S' := [.int 1]) (h' := (jX f g n2 p pa s sa sw (.ref (jpl false)) t, z)) rfl).trans ?_
      exact jev_fin rfl
    · rfl
  · refine (jev_blk 1 (pc' := if u0 = 0 then 41 else 21) (L' := ([some (.ref 1), some (.int x1), some (.int x2), d3], [])) (S' := []) (h' := (jX f g n2 p pa s sa sw (.ref (jpl true)) t, z)) rfl).trans (jev_ite.trans (jite_congr (fun _ => ?_) (fun _ => ?_)))
    · refine (jev_blk 1 (pc' := 42) (L' := ([some (.ref 1), some (.int x1), some (.int x2), d3], [])) (S' := [.int 1]) (h' := (jX f g n2 p pa s sa sw (.ref (jpl true)) t, z)) rfl).trans ?_
      exact jev_fin rfl
    · rfl
set_option maxRecDepth 20000 in
theorem E_r_readSum_27 {D : Nat} {w : Bool} {x1 : Int32} {x2 : Int32} {x3 : Int32} {u0 : Int32} {f : Nat → Int32} {g : Nat → Nat → Int32} {n2 : Nat → Nat → Int64} {p : Nat → Nat → Int32} {pa : Nat → Nat → Nat → Int32} {s : Nat → Nat → Int32} {sa : Nat → Nat → Nat → Int32} {sw : Bool} {t : List jE} {z : Nat × Nat × Nat × (Nat → Int32)}  : jev (D + 1) 70 27 ([some (.ref 1), some (.int x1), some (.int x2), some (.int x3)], []) [.int u0] (jX f g n2 p pa s sa sw (.ref (jpl w)) t, z) = if u0 = 0 then (some (.inl (some (.int 0)), (jX f g n2 p pa s sa sw (.ref (jpl w)) t, z))) else (jbO (K_r_readProduct D w x1 f g n2 p pa s sa sw t z) (jk (D + 1) 70 31 ([some (.ref 1), some (.int x1), some (.int x2), some (.int x3)], []) [])) := by
  cases w
  · refine (jev_blk 1 (pc' := if u0 = 0 then 37 else 28) (L' := ([some (.ref 1), some (.int x1), some (.int x2), some (.int x3)], [])) (S' := []) (h' := (jX f g n2 p pa s sa sw (.ref (jpl false)) t, z)) rfl).trans (jev_ite.trans (jite_congr (fun _ => ?_) (fun _ => ?_)))
    · refine (jev_blk 1 (pc' := 38) (L' := ([some (.ref 1), some (.int x1), some (.int x2), some (.int x3)], [])) (S' := [.int 0]) (h' := (jX f g n2 p pa s sa sw (.ref (jpl false)) t, z)) rfl).trans ?_
      exact jev_fin rfl
    · refine (jev_blk 2 (pc' := 30) (L' := ([some (.ref 1), some (.int x1), some (.int x2), some (.int x3)], [])) (S' := [.int x1, .ref 1]) (h' := (jX f g n2 p pa s sa sw (.ref (jpl false)) t, z)) rfl).trans ?_
      exact jev_callb (nx := 31) (rest := []) rfl
  · refine (jev_blk 1 (pc' := if u0 = 0 then 37 else 28) (L' := ([some (.ref 1), some (.int x1), some (.int x2), some (.int x3)], [])) (S' := []) (h' := (jX f g n2 p pa s sa sw (.ref (jpl true)) t, z)) rfl).trans (jev_ite.trans (jite_congr (fun _ => ?_) (fun _ => ?_)))
    · refine (jev_blk 1 (pc' := 38) (L' := ([some (.ref 1), some (.int x1), some (.int x2), some (.int x3)], [])) (S' := [.int 0]) (h' := (jX f g n2 p pa s sa sw (.ref (jpl true)) t, z)) rfl).trans ?_
      exact jev_fin rfl
    · refine (jev_blk 2 (pc' := 30) (L' := ([some (.ref 1), some (.int x1), some (.int x2), some (.int x3)], [])) (S' := [.int x1, .ref 1]) (h' := (jX f g n2 p pa s sa sw (.ref (jpl true)) t, z)) rfl).trans ?_
      exact jev_callb (nx := 31) (rest := []) rfl
set_option maxRecDepth 20000 in
theorem E_r_readSum_31 {D : Nat} {w : Bool} {x1 : Int32} {x2 : Int32} {x3 : Int32} {u0 : Int32} {f : Nat → Int32} {g : Nat → Nat → Int32} {n2 : Nat → Nat → Int64} {p : Nat → Nat → Int32} {pa : Nat → Nat → Nat → Int32} {s : Nat → Nat → Int32} {sa : Nat → Nat → Nat → Int32} {sw : Bool} {t : List jE} {z : Nat × Nat × Nat × (Nat → Int32)}  : jev D 70 31 ([some (.ref 1), some (.int x1), some (.int x2), some (.int x3)], []) [.int u0] (jX f g n2 p pa s sa sw (.ref (jpl w)) t, z) = if u0 = 0 then (some (.inl (some (.int 0)), (jX f g n2 p pa s sa sw (.ref (jpl w)) t, z))) else (jbO (K_r_emit D w x3 0 f g n2 p pa s sa sw t z) (jk D 70 36 ([some (.ref 1), some (.int x1), some (.int x2), some (.int x3)], []) [])) := by
  cases w
  · refine (jev_blk 1 (pc' := if u0 = 0 then 37 else 32) (L' := ([some (.ref 1), some (.int x1), some (.int x2), some (.int x3)], [])) (S' := []) (h' := (jX f g n2 p pa s sa sw (.ref (jpl false)) t, z)) rfl).trans (jev_ite.trans (jite_congr (fun _ => ?_) (fun _ => ?_)))
    · refine (jev_blk 1 (pc' := 38) (L' := ([some (.ref 1), some (.int x1), some (.int x2), some (.int x3)], [])) (S' := [.int 0]) (h' := (jX f g n2 p pa s sa sw (.ref (jpl false)) t, z)) rfl).trans ?_
      exact jev_fin rfl
    · refine (jev_blk 3 (pc' := 35) (L' := ([some (.ref 1), some (.int x1), some (.int x2), some (.int x3)], [])) (S' := [.int 0, .int x3, .ref 1]) (h' := (jX f g n2 p pa s sa sw (.ref (jpl false)) t, z)) rfl).trans ?_
      exact jev_callb (nx := 36) (rest := []) rfl
  · refine (jev_blk 1 (pc' := if u0 = 0 then 37 else 32) (L' := ([some (.ref 1), some (.int x1), some (.int x2), some (.int x3)], [])) (S' := []) (h' := (jX f g n2 p pa s sa sw (.ref (jpl true)) t, z)) rfl).trans (jev_ite.trans (jite_congr (fun _ => ?_) (fun _ => ?_)))
    · refine (jev_blk 1 (pc' := 38) (L' := ([some (.ref 1), some (.int x1), some (.int x2), some (.int x3)], [])) (S' := [.int 0]) (h' := (jX f g n2 p pa s sa sw (.ref (jpl true)) t, z)) rfl).trans ?_
      exact jev_fin rfl
    · refine (jev_blk 3 (pc' := 35) (L' := ([some (.ref 1), some (.int x1), some (.int x2), some (.int x3)], [])) (S' := [.int 0, .int x3, .ref 1]) (h' := (jX f g n2 p pa s sa sw (.ref (jpl true)) t, z)) rfl).trans ?_
      exact jev_callb (nx := 36) (rest := []) rfl
set_option maxRecDepth 20000 in
theorem E_r_readSum_36 {D : Nat} {w : Bool} {x1 : Int32} {x2 : Int32} {d3 : Option Value} {u0 : Int32} {f : Nat → Int32} {g : Nat → Nat → Int32} {n2 : Nat → Nat → Int64} {p : Nat → Nat → Int32} {pa : Nat → Nat → Nat → Int32} {s : Nat → Nat → Int32} {sa : Nat → Nat → Nat → Int32} {sw : Bool} {t : List jE} {z : Nat × Nat × Nat × (Nat → Int32)}  : jev D 70 36 ([some (.ref 1), some (.int x1), some (.int x2), d3], []) [.int u0] (jX f g n2 p pa s sa sw (.ref (jpl w)) t, z) = if u0 = 0 then (some (.inl (some (.int 0)), (jX f g n2 p pa s sa sw (.ref (jpl w)) t, z))) else (K_r_readSum_8 D w x1 (x2 + 1) d3 f g n2 p pa s sa sw t z) := by
  cases w
  · refine (jev_blk 1 (pc' := if u0 = 0 then 37 else 39) (L' := ([some (.ref 1), some (.int x1), some (.int x2), d3], [])) (S' := []) (h' := (jX f g n2 p pa s sa sw (.ref (jpl false)) t, z)) rfl).trans (jev_ite.trans (jite_congr (fun _ => ?_) (fun _ => ?_)))
    · refine (jev_blk 1 (pc' := 38) (L' := ([some (.ref 1), some (.int x1), some (.int x2), d3], [])) (S' := [.int 0]) (h' := (jX f g n2 p pa s sa sw (.ref (jpl false)) t, z)) rfl).trans ?_
      exact jev_fin rfl
    · exact jev_blk 2 rfl
  · refine (jev_blk 1 (pc' := if u0 = 0 then 37 else 39) (L' := ([some (.ref 1), some (.int x1), some (.int x2), d3], [])) (S' := []) (h' := (jX f g n2 p pa s sa sw (.ref (jpl true)) t, z)) rfl).trans (jev_ite.trans (jite_congr (fun _ => ?_) (fun _ => ?_)))
    · refine (jev_blk 1 (pc' := 38) (L' := ([some (.ref 1), some (.int x1), some (.int x2), d3], [])) (S' := [.int 0]) (h' := (jX f g n2 p pa s sa sw (.ref (jpl true)) t, z)) rfl).trans ?_
      exact jev_fin rfl
    · exact jev_blk 2 rfl
set_option maxRecDepth 20000 in
theorem E_r_readProduct {D : Nat} {w : Bool} {a0 : Int32} {f : Nat → Int32} {g : Nat → Nat → Int32} {n2 : Nat → Nat → Int64} {p : Nat → Nat → Int32} {pa : Nat → Nat → Nat → Int32} {s : Nat → Nat → Int32} {sa : Nat → Nat → Nat → Int32} {sw : Bool} {t : List jE} {z : Nat × Nat × Nat × (Nat → Int32)}  : K_r_readProduct (D + 1) w a0 f g n2 p pa s sa sw t z = jbO (K_r_readPart D w a0 f g n2 p pa s sa sw t z) (jk (D + 1) 71 3 ([some (.ref 1), some (.int a0), none, none], []) []) := by
  cases w
  · refine (jev_blk 2 (pc' := 2) (L' := ([some (.ref 1), some (.int a0), none, none], [])) (S' := [.int a0, .ref 1]) (h' := (jX f g n2 p pa s sa sw (.ref (jpl false)) t, z)) rfl).trans ?_
    exact jev_callb (nx := 3) (rest := []) rfl
  · refine (jev_blk 2 (pc' := 2) (L' := ([some (.ref 1), some (.int a0), none, none], [])) (S' := [.int a0, .ref 1]) (h' := (jX f g n2 p pa s sa sw (.ref (jpl true)) t, z)) rfl).trans ?_
    exact jev_callb (nx := 3) (rest := []) rfl
set_option maxRecDepth 20000 in
theorem E_r_readProduct_3 {D : Nat} {w : Bool} {x1 : Int32} {d2 : Option Value} {d3 : Option Value} {u0 : Int32} {f : Nat → Int32} {g : Nat → Nat → Int32} {n2 : Nat → Nat → Int64} {p : Nat → Nat → Int32} {pa : Nat → Nat → Nat → Int32} {s : Nat → Nat → Int32} {sa : Nat → Nat → Nat → Int32} {sw : Bool} {t : List jE} {z : Nat × Nat × Nat × (Nat → Int32)}  : jev D 71 3 ([some (.ref 1), some (.int x1), d2, d3], []) [.int u0] (jX f g n2 p pa s sa sw (.ref (jpl w)) t, z) = if u0 = 0 then (some (.inl (some (.int 0)), (jX f g n2 p pa s sa sw (.ref (jpl w)) t, z))) else (K_r_readProduct_8 D w x1 0 d3 f g n2 p pa s sa sw t z) := by
  cases w
  · refine (jev_blk 1 (pc' := if u0 = 0 then 4 else 6) (L' := ([some (.ref 1), some (.int x1), d2, d3], [])) (S' := []) (h' := (jX f g n2 p pa s sa sw (.ref (jpl false)) t, z)) rfl).trans (jev_ite.trans (jite_congr (fun _ => ?_) (fun _ => ?_)))
    · refine (jev_blk 1 (pc' := 5) (L' := ([some (.ref 1), some (.int x1), d2, d3], [])) (S' := [.int 0]) (h' := (jX f g n2 p pa s sa sw (.ref (jpl false)) t, z)) rfl).trans ?_
      exact jev_fin rfl
    · exact jev_blk 2 rfl
  · refine (jev_blk 1 (pc' := if u0 = 0 then 4 else 6) (L' := ([some (.ref 1), some (.int x1), d2, d3], [])) (S' := []) (h' := (jX f g n2 p pa s sa sw (.ref (jpl true)) t, z)) rfl).trans (jev_ite.trans (jite_congr (fun _ => ?_) (fun _ => ?_)))
    · refine (jev_blk 1 (pc' := 5) (L' := ([some (.ref 1), some (.int x1), d2, d3], [])) (S' := [.int 0]) (h' := (jX f g n2 p pa s sa sw (.ref (jpl true)) t, z)) rfl).trans ?_
      exact jev_fin rfl
    · exact jev_blk 2 rfl
set_option maxRecDepth 20000 in
theorem L_r_readProduct_8 {D : Nat} {w : Bool} {x1 : Int32} {x2 : Int32} {d3 : Option Value} {f : Nat → Int32} {g : Nat → Nat → Int32} {n2 : Nat → Nat → Int64} {p : Nat → Nat → Int32} {pa : Nat → Nat → Nat → Int32} {s : Nat → Nat → Int32} {sa : Nat → Nat → Nat → Int32} {sw : Bool} {t : List jE} {z : Nat × Nat × Nat × (Nat → Int32)}  : K_r_readProduct_8 D w x1 x2 d3 f g n2 p pa s sa sw t z = if 64 < x2 then (some (.inl (some (.int 1)), (jX f g n2 p pa s sa sw (.ref (jpl w)) t, z))) else (jbO (K_k_isSign D 13 f g n2 p pa s sa sw (.ref (jpl w)) t z) (jk D 71 15 ([some (.ref 1), some (.int x1), some (.int x2), d3], []) [])) := by
  cases w
  · refine (jev_blk 3 (pc' := if 64 < x2 then 41 else 11) (L' := ([some (.ref 1), some (.int x1), some (.int x2), d3], [])) (S' := []) (h' := (jX f g n2 p pa s sa sw (.ref (jpl false)) t, z)) rfl).trans (jev_ite.trans (jite_congr (fun _ => ?_) (fun _ => ?_)))
    · refine (jev_blk 1 (pc' := 42) (L' := ([some (.ref 1), some (.int x1), some (.int x2), d3], [])) (S' := [.int 1]) (h' := (jX f g n2 p pa s sa sw (.ref (jpl false)) t, z)) rfl).trans ?_
      exact jev_fin rfl
    · refine (jev_blk 3 (pc' := 14) (L' := ([some (.ref 1), some (.int x1), some (.int x2), d3], [])) (S' := [.int 13, .ref 2]) (h' := (jX f g n2 p pa s sa sw (.ref (jpl false)) t, z)) rfl).trans ?_
      exact jev_callb (nx := 15) (rest := []) rfl
  · refine (jev_blk 3 (pc' := if 64 < x2 then 41 else 11) (L' := ([some (.ref 1), some (.int x1), some (.int x2), d3], [])) (S' := []) (h' := (jX f g n2 p pa s sa sw (.ref (jpl true)) t, z)) rfl).trans (jev_ite.trans (jite_congr (fun _ => ?_) (fun _ => ?_)))
    · refine (jev_blk 1 (pc' := 42) (L' := ([some (.ref 1), some (.int x1), some (.int x2), d3], [])) (S' := [.int 1]) (h' := (jX f g n2 p pa s sa sw (.ref (jpl true)) t, z)) rfl).trans ?_
      exact jev_fin rfl
    · refine (jev_blk 3 (pc' := 14) (L' := ([some (.ref 1), some (.int x1), some (.int x2), d3], [])) (S' := [.int 13, .ref 2]) (h' := (jX f g n2 p pa s sa sw (.ref (jpl true)) t, z)) rfl).trans ?_
      exact jev_callb (nx := 15) (rest := []) rfl
set_option maxRecDepth 20000 in
theorem E_r_readProduct_15 {D : Nat} {w : Bool} {x1 : Int32} {x2 : Int32} {d3 : Option Value} {u0 : Int32} {f : Nat → Int32} {g : Nat → Nat → Int32} {n2 : Nat → Nat → Int64} {p : Nat → Nat → Int32} {pa : Nat → Nat → Nat → Int32} {s : Nat → Nat → Int32} {sa : Nat → Nat → Nat → Int32} {sw : Bool} {t : List jE} {z : Nat × Nat × Nat × (Nat → Int32)}  : jev D 71 15 ([some (.ref 1), some (.int x1), some (.int x2), d3], []) [.int u0] (jX f g n2 p pa s sa sw (.ref (jpl w)) t, z) = if u0 = 0 then (jbO (K_k_isSign D 14 f g n2 p pa s sa sw (.ref (jpl w)) t z) (jk D 71 20 ([some (.ref 1), some (.int x1), some (.int x2), d3], []) [])) else (K_r_readProduct_21 D w x1 x2 d3 f g n2 p pa s sa sw t z) := by
  cases w
  · refine (jev_blk 1 (pc' := if u0 = 0 then 16 else 21) (L' := ([some (.ref 1), some (.int x1), some (.int x2), d3], [])) (S' := []) (h' := (jX f g n2 p pa s sa sw (.ref (jpl false)) t, z)) rfl).trans (jev_ite.trans (jite_congr (fun _ => ?_) (fun _ => ?_)))
    · refine (jev_blk 3 (pc' := 19) (L' := ([some (.ref 1), some (.int x1), some (.int x2), d3], [])) (S' := [.int 14, .ref 2]) (h' := (jX f g n2 p pa s sa sw (.ref (jpl false)) t, z)) rfl).trans ?_
      exact jev_callb (nx := 20) (rest := []) rfl
    · rfl
  · refine (jev_blk 1 (pc' := if u0 = 0 then 16 else 21) (L' := ([some (.ref 1), some (.int x1), some (.int x2), d3], [])) (S' := []) (h' := (jX f g n2 p pa s sa sw (.ref (jpl true)) t, z)) rfl).trans (jev_ite.trans (jite_congr (fun _ => ?_) (fun _ => ?_)))
    · refine (jev_blk 3 (pc' := 19) (L' := ([some (.ref 1), some (.int x1), some (.int x2), d3], [])) (S' := [.int 14, .ref 2]) (h' := (jX f g n2 p pa s sa sw (.ref (jpl true)) t, z)) rfl).trans ?_
      exact jev_callb (nx := 20) (rest := []) rfl
    · rfl
set_option maxRecDepth 20000 in
theorem E_r_readProduct_21 {D : Nat} {w : Bool} {x1 : Int32} {x2 : Int32} {d3 : Option Value} {f : Nat → Int32} {g : Nat → Nat → Int32} {n2 : Nat → Nat → Int64} {p : Nat → Nat → Int32} {pa : Nat → Nat → Nat → Int32} {s : Nat → Nat → Int32} {sa : Nat → Nat → Nat → Int32} {sw : Bool} {t : List jE} {z : Nat × Nat × Nat × (Nat → Int32)}  : K_r_readProduct_21 D w x1 x2 d3 f g n2 p pa s sa sw t z = jbO (K_r_takeKnot D w f g n2 p pa s sa sw t z) (jk D 71 27 ([some (.ref 1), some (.int x1), some (.int x2), some (.int (f 12))], []) []) := by
  cases w
  · refine (jev_blk 5 (pc' := 26) (L' := ([some (.ref 1), some (.int x1), some (.int x2), some (.int (f 12))], [])) (S' := [.ref 1]) (h' := (jX f g n2 p pa s sa sw (.ref (jpl false)) t, z)) rfl).trans ?_
    exact jev_callb (nx := 27) (rest := []) rfl
  · refine (jev_blk 5 (pc' := 26) (L' := ([some (.ref 1), some (.int x1), some (.int x2), some (.int (f 12))], [])) (S' := [.ref 1]) (h' := (jX f g n2 p pa s sa sw (.ref (jpl true)) t, z)) rfl).trans ?_
    exact jev_callb (nx := 27) (rest := []) rfl
set_option maxRecDepth 20000 in
theorem E_r_readProduct_20 {D : Nat} {w : Bool} {x1 : Int32} {x2 : Int32} {d3 : Option Value} {u0 : Int32} {f : Nat → Int32} {g : Nat → Nat → Int32} {n2 : Nat → Nat → Int64} {p : Nat → Nat → Int32} {pa : Nat → Nat → Nat → Int32} {s : Nat → Nat → Int32} {sa : Nat → Nat → Nat → Int32} {sw : Bool} {t : List jE} {z : Nat × Nat × Nat × (Nat → Int32)}  : jev D 71 20 ([some (.ref 1), some (.int x1), some (.int x2), d3], []) [.int u0] (jX f g n2 p pa s sa sw (.ref (jpl w)) t, z) = if u0 = 0 then (some (.inl (some (.int 1)), (jX f g n2 p pa s sa sw (.ref (jpl w)) t, z))) else (K_r_readProduct_21 D w x1 x2 d3 f g n2 p pa s sa sw t z) := by
  cases w
  · refine (jev_blk 1 (pc' := if u0 = 0 then 41 else 21) (L' := ([some (.ref 1), some (.int x1), some (.int x2), d3], [])) (S' := []) (h' := (jX f g n2 p pa s sa sw (.ref (jpl false)) t, z)) rfl).trans (jev_ite.trans (jite_congr (fun _ => ?_) (fun _ => ?_)))
    · refine (jev_blk 1 (pc' := 42) (L' := ([some (.ref 1), some (.int x1), some (.int x2), d3], [])) (S' := [.int 1]) (h' := (jX f g n2 p pa s sa sw (.ref (jpl false)) t, z)) rfl).trans ?_
      exact jev_fin rfl
    · rfl
  · refine (jev_blk 1 (pc' := if u0 = 0 then 41 else 21) (L' := ([some (.ref 1), some (.int x1), some (.int x2), d3], [])) (S' := []) (h' := (jX f g n2 p pa s sa sw (.ref (jpl true)) t, z)) rfl).trans (jev_ite.trans (jite_congr (fun _ => ?_) (fun _ => ?_)))
    · refine (jev_blk 1 (pc' := 42) (L' := ([some (.ref 1), some (.int x1), some (.int x2), d3], [])) (S' := [.int 1]) (h' := (jX f g n2 p pa s sa sw (.ref (jpl true)) t, z)) rfl).trans ?_
      exact jev_fin rfl
    · rfl
set_option maxRecDepth 20000 in
theorem E_r_readProduct_27 {D : Nat} {w : Bool} {x1 : Int32} {x2 : Int32} {x3 : Int32} {u0 : Int32} {f : Nat → Int32} {g : Nat → Nat → Int32} {n2 : Nat → Nat → Int64} {p : Nat → Nat → Int32} {pa : Nat → Nat → Nat → Int32} {s : Nat → Nat → Int32} {sa : Nat → Nat → Nat → Int32} {sw : Bool} {t : List jE} {z : Nat × Nat × Nat × (Nat → Int32)}  : jev (D + 1) 71 27 ([some (.ref 1), some (.int x1), some (.int x2), some (.int x3)], []) [.int u0] (jX f g n2 p pa s sa sw (.ref (jpl w)) t, z) = if u0 = 0 then (some (.inl (some (.int 0)), (jX f g n2 p pa s sa sw (.ref (jpl w)) t, z))) else (jbO (K_r_readPart D w x1 f g n2 p pa s sa sw t z) (jk (D + 1) 71 31 ([some (.ref 1), some (.int x1), some (.int x2), some (.int x3)], []) [])) := by
  cases w
  · refine (jev_blk 1 (pc' := if u0 = 0 then 37 else 28) (L' := ([some (.ref 1), some (.int x1), some (.int x2), some (.int x3)], [])) (S' := []) (h' := (jX f g n2 p pa s sa sw (.ref (jpl false)) t, z)) rfl).trans (jev_ite.trans (jite_congr (fun _ => ?_) (fun _ => ?_)))
    · refine (jev_blk 1 (pc' := 38) (L' := ([some (.ref 1), some (.int x1), some (.int x2), some (.int x3)], [])) (S' := [.int 0]) (h' := (jX f g n2 p pa s sa sw (.ref (jpl false)) t, z)) rfl).trans ?_
      exact jev_fin rfl
    · refine (jev_blk 2 (pc' := 30) (L' := ([some (.ref 1), some (.int x1), some (.int x2), some (.int x3)], [])) (S' := [.int x1, .ref 1]) (h' := (jX f g n2 p pa s sa sw (.ref (jpl false)) t, z)) rfl).trans ?_
      exact jev_callb (nx := 31) (rest := []) rfl
  · refine (jev_blk 1 (pc' := if u0 = 0 then 37 else 28) (L' := ([some (.ref 1), some (.int x1), some (.int x2), some (.int x3)], [])) (S' := []) (h' := (jX f g n2 p pa s sa sw (.ref (jpl true)) t, z)) rfl).trans (jev_ite.trans (jite_congr (fun _ => ?_) (fun _ => ?_)))
    · refine (jev_blk 1 (pc' := 38) (L' := ([some (.ref 1), some (.int x1), some (.int x2), some (.int x3)], [])) (S' := [.int 0]) (h' := (jX f g n2 p pa s sa sw (.ref (jpl true)) t, z)) rfl).trans ?_
      exact jev_fin rfl
    · refine (jev_blk 2 (pc' := 30) (L' := ([some (.ref 1), some (.int x1), some (.int x2), some (.int x3)], [])) (S' := [.int x1, .ref 1]) (h' := (jX f g n2 p pa s sa sw (.ref (jpl true)) t, z)) rfl).trans ?_
      exact jev_callb (nx := 31) (rest := []) rfl
set_option maxRecDepth 20000 in
theorem E_r_readProduct_31 {D : Nat} {w : Bool} {x1 : Int32} {x2 : Int32} {x3 : Int32} {u0 : Int32} {f : Nat → Int32} {g : Nat → Nat → Int32} {n2 : Nat → Nat → Int64} {p : Nat → Nat → Int32} {pa : Nat → Nat → Nat → Int32} {s : Nat → Nat → Int32} {sa : Nat → Nat → Nat → Int32} {sw : Bool} {t : List jE} {z : Nat × Nat × Nat × (Nat → Int32)}  : jev D 71 31 ([some (.ref 1), some (.int x1), some (.int x2), some (.int x3)], []) [.int u0] (jX f g n2 p pa s sa sw (.ref (jpl w)) t, z) = if u0 = 0 then (some (.inl (some (.int 0)), (jX f g n2 p pa s sa sw (.ref (jpl w)) t, z))) else (jbO (K_r_emit D w x3 0 f g n2 p pa s sa sw t z) (jk D 71 36 ([some (.ref 1), some (.int x1), some (.int x2), some (.int x3)], []) [])) := by
  cases w
  · refine (jev_blk 1 (pc' := if u0 = 0 then 37 else 32) (L' := ([some (.ref 1), some (.int x1), some (.int x2), some (.int x3)], [])) (S' := []) (h' := (jX f g n2 p pa s sa sw (.ref (jpl false)) t, z)) rfl).trans (jev_ite.trans (jite_congr (fun _ => ?_) (fun _ => ?_)))
    · refine (jev_blk 1 (pc' := 38) (L' := ([some (.ref 1), some (.int x1), some (.int x2), some (.int x3)], [])) (S' := [.int 0]) (h' := (jX f g n2 p pa s sa sw (.ref (jpl false)) t, z)) rfl).trans ?_
      exact jev_fin rfl
    · refine (jev_blk 3 (pc' := 35) (L' := ([some (.ref 1), some (.int x1), some (.int x2), some (.int x3)], [])) (S' := [.int 0, .int x3, .ref 1]) (h' := (jX f g n2 p pa s sa sw (.ref (jpl false)) t, z)) rfl).trans ?_
      exact jev_callb (nx := 36) (rest := []) rfl
  · refine (jev_blk 1 (pc' := if u0 = 0 then 37 else 32) (L' := ([some (.ref 1), some (.int x1), some (.int x2), some (.int x3)], [])) (S' := []) (h' := (jX f g n2 p pa s sa sw (.ref (jpl true)) t, z)) rfl).trans (jev_ite.trans (jite_congr (fun _ => ?_) (fun _ => ?_)))
    · refine (jev_blk 1 (pc' := 38) (L' := ([some (.ref 1), some (.int x1), some (.int x2), some (.int x3)], [])) (S' := [.int 0]) (h' := (jX f g n2 p pa s sa sw (.ref (jpl true)) t, z)) rfl).trans ?_
      exact jev_fin rfl
    · refine (jev_blk 3 (pc' := 35) (L' := ([some (.ref 1), some (.int x1), some (.int x2), some (.int x3)], [])) (S' := [.int 0, .int x3, .ref 1]) (h' := (jX f g n2 p pa s sa sw (.ref (jpl true)) t, z)) rfl).trans ?_
      exact jev_callb (nx := 36) (rest := []) rfl
set_option maxRecDepth 20000 in
theorem E_r_readProduct_36 {D : Nat} {w : Bool} {x1 : Int32} {x2 : Int32} {d3 : Option Value} {u0 : Int32} {f : Nat → Int32} {g : Nat → Nat → Int32} {n2 : Nat → Nat → Int64} {p : Nat → Nat → Int32} {pa : Nat → Nat → Nat → Int32} {s : Nat → Nat → Int32} {sa : Nat → Nat → Nat → Int32} {sw : Bool} {t : List jE} {z : Nat × Nat × Nat × (Nat → Int32)}  : jev D 71 36 ([some (.ref 1), some (.int x1), some (.int x2), d3], []) [.int u0] (jX f g n2 p pa s sa sw (.ref (jpl w)) t, z) = if u0 = 0 then (some (.inl (some (.int 0)), (jX f g n2 p pa s sa sw (.ref (jpl w)) t, z))) else (K_r_readProduct_8 D w x1 (x2 + 1) d3 f g n2 p pa s sa sw t z) := by
  cases w
  · refine (jev_blk 1 (pc' := if u0 = 0 then 37 else 39) (L' := ([some (.ref 1), some (.int x1), some (.int x2), d3], [])) (S' := []) (h' := (jX f g n2 p pa s sa sw (.ref (jpl false)) t, z)) rfl).trans (jev_ite.trans (jite_congr (fun _ => ?_) (fun _ => ?_)))
    · refine (jev_blk 1 (pc' := 38) (L' := ([some (.ref 1), some (.int x1), some (.int x2), d3], [])) (S' := [.int 0]) (h' := (jX f g n2 p pa s sa sw (.ref (jpl false)) t, z)) rfl).trans ?_
      exact jev_fin rfl
    · exact jev_blk 2 rfl
  · refine (jev_blk 1 (pc' := if u0 = 0 then 37 else 39) (L' := ([some (.ref 1), some (.int x1), some (.int x2), d3], [])) (S' := []) (h' := (jX f g n2 p pa s sa sw (.ref (jpl true)) t, z)) rfl).trans (jev_ite.trans (jite_congr (fun _ => ?_) (fun _ => ?_)))
    · refine (jev_blk 1 (pc' := 38) (L' := ([some (.ref 1), some (.int x1), some (.int x2), d3], [])) (S' := [.int 0]) (h' := (jX f g n2 p pa s sa sw (.ref (jpl true)) t, z)) rfl).trans ?_
      exact jev_fin rfl
    · exact jev_blk 2 rfl
set_option maxRecDepth 20000 in
theorem E_r_readPart {D : Nat} {w : Bool} {a0 : Int32} {f : Nat → Int32} {g : Nat → Nat → Int32} {n2 : Nat → Nat → Int64} {p : Nat → Nat → Int32} {pa : Nat → Nat → Nat → Int32} {s : Nat → Nat → Int32} {sa : Nat → Nat → Nat → Int32} {sw : Bool} {t : List jE} {z : Nat × Nat × Nat × (Nat → Int32)}  : K_r_readPart D w a0 f g n2 p pa s sa sw t z = if (f 11) = 2 then (jbO (K_r_isNumber D w 0 9999 f g n2 p pa s sa sw t z) (jk D 72 13 ([some (.ref 1), some (.int a0), some (.int (f 12))], []) [])) else (if (f 11) = 4 then (if (f 12) < 15 then (K_r_readPart_48 D w a0 (some (.int (f 12))) f g n2 p pa s sa sw t z) else (jbO (K_r_takeKnot D w f g n2 p pa s sa sw t z) (jk D 72 36 ([some (.ref 1), some (.int a0), some (.int (f 12))], []) []))) else (K_r_readPart_48 D w a0 (some (.int (f 12))) f g n2 p pa s sa sw t z)) := by
  cases w
  · refine (jev_blk 9 (pc' := if (f 11) = 2 then 9 else 26) (L' := ([some (.ref 1), some (.int a0), some (.int (f 12))], [])) (S' := []) (h' := (jX f g n2 p pa s sa sw (.ref (jpl false)) t, z)) rfl).trans (jev_ite.trans (jite_congr (fun _ => ?_) (fun _ => ?_)))
    · refine (jev_blk 3 (pc' := 12) (L' := ([some (.ref 1), some (.int a0), some (.int (f 12))], [])) (S' := [.int 9999, .int 0, .ref 1]) (h' := (jX f g n2 p pa s sa sw (.ref (jpl false)) t, z)) rfl).trans ?_
      exact jev_callb (nx := 13) (rest := []) rfl
    · refine (jev_blk 5 (pc' := if (f 11) = 4 then 31 else 48) (L' := ([some (.ref 1), some (.int a0), some (.int (f 12))], [])) (S' := []) (h' := (jX f g n2 p pa s sa sw (.ref (jpl false)) t, z)) rfl).trans (jev_ite.trans (jite_congr (fun _ => ?_) (fun _ => ?_)))
      · refine (jev_blk 3 (pc' := if (f 12) < 15 then 48 else 34) (L' := ([some (.ref 1), some (.int a0), some (.int (f 12))], [])) (S' := []) (h' := (jX f g n2 p pa s sa sw (.ref (jpl false)) t, z)) rfl).trans (jev_ite.trans (jite_congr (fun _ => ?_) (fun _ => ?_)))
        · rfl
        · refine (jev_blk 1 (pc' := 35) (L' := ([some (.ref 1), some (.int a0), some (.int (f 12))], [])) (S' := [.ref 1]) (h' := (jX f g n2 p pa s sa sw (.ref (jpl false)) t, z)) rfl).trans ?_
          exact jev_callb (nx := 36) (rest := []) rfl
      · rfl
  · refine (jev_blk 9 (pc' := if (f 11) = 2 then 9 else 26) (L' := ([some (.ref 1), some (.int a0), some (.int (f 12))], [])) (S' := []) (h' := (jX f g n2 p pa s sa sw (.ref (jpl true)) t, z)) rfl).trans (jev_ite.trans (jite_congr (fun _ => ?_) (fun _ => ?_)))
    · refine (jev_blk 3 (pc' := 12) (L' := ([some (.ref 1), some (.int a0), some (.int (f 12))], [])) (S' := [.int 9999, .int 0, .ref 1]) (h' := (jX f g n2 p pa s sa sw (.ref (jpl true)) t, z)) rfl).trans ?_
      exact jev_callb (nx := 13) (rest := []) rfl
    · refine (jev_blk 5 (pc' := if (f 11) = 4 then 31 else 48) (L' := ([some (.ref 1), some (.int a0), some (.int (f 12))], [])) (S' := []) (h' := (jX f g n2 p pa s sa sw (.ref (jpl true)) t, z)) rfl).trans (jev_ite.trans (jite_congr (fun _ => ?_) (fun _ => ?_)))
      · refine (jev_blk 3 (pc' := if (f 12) < 15 then 48 else 34) (L' := ([some (.ref 1), some (.int a0), some (.int (f 12))], [])) (S' := []) (h' := (jX f g n2 p pa s sa sw (.ref (jpl true)) t, z)) rfl).trans (jev_ite.trans (jite_congr (fun _ => ?_) (fun _ => ?_)))
        · rfl
        · refine (jev_blk 1 (pc' := 35) (L' := ([some (.ref 1), some (.int a0), some (.int (f 12))], [])) (S' := [.ref 1]) (h' := (jX f g n2 p pa s sa sw (.ref (jpl true)) t, z)) rfl).trans ?_
          exact jev_callb (nx := 36) (rest := []) rfl
      · rfl
set_option maxRecDepth 20000 in
theorem E_r_readPart_48 {D : Nat} {w : Bool} {x1 : Int32} {d2 : Option Value} {f : Nat → Int32} {g : Nat → Nat → Int32} {n2 : Nat → Nat → Int64} {p : Nat → Nat → Int32} {pa : Nat → Nat → Nat → Int32} {s : Nat → Nat → Int32} {sa : Nat → Nat → Nat → Int32} {sw : Bool} {t : List jE} {z : Nat × Nat × Nat × (Nat → Int32)}  : K_r_readPart_48 D w x1 d2 f g n2 p pa s sa sw t z = jbO (K_k_isSign D 101 f g n2 p pa s sa sw (.ref (jpl w)) t z) (jk D 72 52 ([some (.ref 1), some (.int x1), d2], []) []) := by
  cases w
  · refine (jev_blk 3 (pc' := 51) (L' := ([some (.ref 1), some (.int x1), d2], [])) (S' := [.int 101, .ref 2]) (h' := (jX f g n2 p pa s sa sw (.ref (jpl false)) t, z)) rfl).trans ?_
    exact jev_callb (nx := 52) (rest := []) rfl
  · refine (jev_blk 3 (pc' := 51) (L' := ([some (.ref 1), some (.int x1), d2], [])) (S' := [.int 101, .ref 2]) (h' := (jX f g n2 p pa s sa sw (.ref (jpl true)) t, z)) rfl).trans ?_
    exact jev_callb (nx := 52) (rest := []) rfl
set_option maxRecDepth 20000 in
theorem E_r_readPart_13 {D : Nat} {w : Bool} {d1 : Option Value} {x2 : Int32} {u0 : Int32} {f : Nat → Int32} {g : Nat → Nat → Int32} {n2 : Nat → Nat → Int64} {p : Nat → Nat → Int32} {pa : Nat → Nat → Nat → Int32} {s : Nat → Nat → Int32} {sa : Nat → Nat → Nat → Int32} {sw : Bool} {t : List jE} {z : Nat × Nat × Nat × (Nat → Int32)}  : jev D 72 13 ([some (.ref 1), d1, some (.int x2)], []) [.int u0] (jX f g n2 p pa s sa sw (.ref (jpl w)) t, z) = if u0 = 0 then (some (.inl (some (.int 0)), (jX f g n2 p pa s sa sw (.ref (jpl w)) t, z))) else (jbO (K_r_takeKnot D w f g n2 p pa s sa sw t z) (jk D 72 16 ([some (.ref 1), d1, some (.int x2)], []) [])) := by
  cases w
  · refine (jev_blk 1 (pc' := if u0 = 0 then 24 else 14) (L' := ([some (.ref 1), d1, some (.int x2)], [])) (S' := []) (h' := (jX f g n2 p pa s sa sw (.ref (jpl false)) t, z)) rfl).trans (jev_ite.trans (jite_congr (fun _ => ?_) (fun _ => ?_)))
    · refine (jev_blk 1 (pc' := 25) (L' := ([some (.ref 1), d1, some (.int x2)], [])) (S' := [.int 0]) (h' := (jX f g n2 p pa s sa sw (.ref (jpl false)) t, z)) rfl).trans ?_
      exact jev_fin rfl
    · refine (jev_blk 1 (pc' := 15) (L' := ([some (.ref 1), d1, some (.int x2)], [])) (S' := [.ref 1]) (h' := (jX f g n2 p pa s sa sw (.ref (jpl false)) t, z)) rfl).trans ?_
      exact jev_callb (nx := 16) (rest := []) rfl
  · refine (jev_blk 1 (pc' := if u0 = 0 then 24 else 14) (L' := ([some (.ref 1), d1, some (.int x2)], [])) (S' := []) (h' := (jX f g n2 p pa s sa sw (.ref (jpl true)) t, z)) rfl).trans (jev_ite.trans (jite_congr (fun _ => ?_) (fun _ => ?_)))
    · refine (jev_blk 1 (pc' := 25) (L' := ([some (.ref 1), d1, some (.int x2)], [])) (S' := [.int 0]) (h' := (jX f g n2 p pa s sa sw (.ref (jpl true)) t, z)) rfl).trans ?_
      exact jev_fin rfl
    · refine (jev_blk 1 (pc' := 15) (L' := ([some (.ref 1), d1, some (.int x2)], [])) (S' := [.ref 1]) (h' := (jX f g n2 p pa s sa sw (.ref (jpl true)) t, z)) rfl).trans ?_
      exact jev_callb (nx := 16) (rest := []) rfl
set_option maxRecDepth 20000 in
theorem E_r_readPart_36 {D : Nat} {w : Bool} {d1 : Option Value} {x2 : Int32} {u0 : Int32} {f : Nat → Int32} {g : Nat → Nat → Int32} {n2 : Nat → Nat → Int64} {p : Nat → Nat → Int32} {pa : Nat → Nat → Nat → Int32} {s : Nat → Nat → Int32} {sa : Nat → Nat → Nat → Int32} {sw : Bool} {t : List jE} {z : Nat × Nat × Nat × (Nat → Int32)}  : jev D 72 36 ([some (.ref 1), d1, some (.int x2)], []) [.int u0] (jX f g n2 p pa s sa sw (.ref (jpl w)) t, z) = if u0 = 0 then (some (.inl (some (.int 0)), (jX f g n2 p pa s sa sw (.ref (jpl w)) t, z))) else (jbO (K_r_emit D w 1 (x2 - 15) f g n2 p pa s sa sw t z) (jk D 72 43 ([some (.ref 1), d1, some (.int x2)], []) [])) := by
  cases w
  · refine (jev_blk 1 (pc' := if u0 = 0 then 46 else 37) (L' := ([some (.ref 1), d1, some (.int x2)], [])) (S' := []) (h' := (jX f g n2 p pa s sa sw (.ref (jpl false)) t, z)) rfl).trans (jev_ite.trans (jite_congr (fun _ => ?_) (fun _ => ?_)))
    · refine (jev_blk 1 (pc' := 47) (L' := ([some (.ref 1), d1, some (.int x2)], [])) (S' := [.int 0]) (h' := (jX f g n2 p pa s sa sw (.ref (jpl false)) t, z)) rfl).trans ?_
      exact jev_fin rfl
    · refine (jev_blk 5 (pc' := 42) (L' := ([some (.ref 1), d1, some (.int x2)], [])) (S' := [.int (x2 - 15), .int 1, .ref 1]) (h' := (jX f g n2 p pa s sa sw (.ref (jpl false)) t, z)) rfl).trans ?_
      exact jev_callb (nx := 43) (rest := []) rfl
  · refine (jev_blk 1 (pc' := if u0 = 0 then 46 else 37) (L' := ([some (.ref 1), d1, some (.int x2)], [])) (S' := []) (h' := (jX f g n2 p pa s sa sw (.ref (jpl true)) t, z)) rfl).trans (jev_ite.trans (jite_congr (fun _ => ?_) (fun _ => ?_)))
    · refine (jev_blk 1 (pc' := 47) (L' := ([some (.ref 1), d1, some (.int x2)], [])) (S' := [.int 0]) (h' := (jX f g n2 p pa s sa sw (.ref (jpl true)) t, z)) rfl).trans ?_
      exact jev_fin rfl
    · refine (jev_blk 5 (pc' := 42) (L' := ([some (.ref 1), d1, some (.int x2)], [])) (S' := [.int (x2 - 15), .int 1, .ref 1]) (h' := (jX f g n2 p pa s sa sw (.ref (jpl true)) t, z)) rfl).trans ?_
      exact jev_callb (nx := 43) (rest := []) rfl
set_option maxRecDepth 20000 in
theorem E_r_readPart_52 {D : Nat} {w : Bool} {x1 : Int32} {d2 : Option Value} {u0 : Int32} {f : Nat → Int32} {g : Nat → Nat → Int32} {n2 : Nat → Nat → Int64} {p : Nat → Nat → Int32} {pa : Nat → Nat → Nat → Int32} {s : Nat → Nat → Int32} {sa : Nat → Nat → Nat → Int32} {sw : Bool} {t : List jE} {z : Nat × Nat × Nat × (Nat → Int32)}  : jev D 72 52 ([some (.ref 1), some (.int x1), d2], []) [.int u0] (jX f g n2 p pa s sa sw (.ref (jpl w)) t, z) = if u0 = 0 then (jbO (K_r_fail D w 1 f g n2 p pa s sa sw t z) (jk D 72 56 ([some (.ref 1), some (.int x1), d2], []) [])) else (if x1 < 8 then (jbO (K_k_step D f g n2 p pa s sa sw (.ref (jpl w)) t z) (jk D 72 67 ([some (.ref 1), some (.int x1), d2], []) [])) else (jbO (K_r_fail D w 2 f g n2 p pa s sa sw t z) (jk D 72 63 ([some (.ref 1), some (.int x1), d2], []) []))) := by
  cases w
  · refine (jev_blk 1 (pc' := if u0 = 0 then 53 else 57) (L' := ([some (.ref 1), some (.int x1), d2], [])) (S' := []) (h' := (jX f g n2 p pa s sa sw (.ref (jpl false)) t, z)) rfl).trans (jev_ite.trans (jite_congr (fun _ => ?_) (fun _ => ?_)))
    · refine (jev_blk 2 (pc' := 55) (L' := ([some (.ref 1), some (.int x1), d2], [])) (S' := [.int 1, .ref 1]) (h' := (jX f g n2 p pa s sa sw (.ref (jpl false)) t, z)) rfl).trans ?_
      exact jev_callb (nx := 56) (rest := []) rfl
    · refine (jev_blk 3 (pc' := if x1 < 8 then 64 else 60) (L' := ([some (.ref 1), some (.int x1), d2], [])) (S' := []) (h' := (jX f g n2 p pa s sa sw (.ref (jpl false)) t, z)) rfl).trans (jev_ite.trans (jite_congr (fun _ => ?_) (fun _ => ?_)))
      · refine (jev_blk 2 (pc' := 66) (L' := ([some (.ref 1), some (.int x1), d2], [])) (S' := [.ref 2]) (h' := (jX f g n2 p pa s sa sw (.ref (jpl false)) t, z)) rfl).trans ?_
        exact jev_callb (nx := 67) (rest := []) rfl
      · refine (jev_blk 2 (pc' := 62) (L' := ([some (.ref 1), some (.int x1), d2], [])) (S' := [.int 2, .ref 1]) (h' := (jX f g n2 p pa s sa sw (.ref (jpl false)) t, z)) rfl).trans ?_
        exact jev_callb (nx := 63) (rest := []) rfl
  · refine (jev_blk 1 (pc' := if u0 = 0 then 53 else 57) (L' := ([some (.ref 1), some (.int x1), d2], [])) (S' := []) (h' := (jX f g n2 p pa s sa sw (.ref (jpl true)) t, z)) rfl).trans (jev_ite.trans (jite_congr (fun _ => ?_) (fun _ => ?_)))
    · refine (jev_blk 2 (pc' := 55) (L' := ([some (.ref 1), some (.int x1), d2], [])) (S' := [.int 1, .ref 1]) (h' := (jX f g n2 p pa s sa sw (.ref (jpl true)) t, z)) rfl).trans ?_
      exact jev_callb (nx := 56) (rest := []) rfl
    · refine (jev_blk 3 (pc' := if x1 < 8 then 64 else 60) (L' := ([some (.ref 1), some (.int x1), d2], [])) (S' := []) (h' := (jX f g n2 p pa s sa sw (.ref (jpl true)) t, z)) rfl).trans (jev_ite.trans (jite_congr (fun _ => ?_) (fun _ => ?_)))
      · refine (jev_blk 2 (pc' := 66) (L' := ([some (.ref 1), some (.int x1), d2], [])) (S' := [.ref 2]) (h' := (jX f g n2 p pa s sa sw (.ref (jpl true)) t, z)) rfl).trans ?_
        exact jev_callb (nx := 67) (rest := []) rfl
      · refine (jev_blk 2 (pc' := 62) (L' := ([some (.ref 1), some (.int x1), d2], [])) (S' := [.int 2, .ref 1]) (h' := (jX f g n2 p pa s sa sw (.ref (jpl true)) t, z)) rfl).trans ?_
        exact jev_callb (nx := 63) (rest := []) rfl
set_option maxRecDepth 20000 in
theorem E_r_readPart_16 {D : Nat} {w : Bool} {d1 : Option Value} {x2 : Int32} {u0 : Int32} {f : Nat → Int32} {g : Nat → Nat → Int32} {n2 : Nat → Nat → Int64} {p : Nat → Nat → Int32} {pa : Nat → Nat → Nat → Int32} {s : Nat → Nat → Int32} {sa : Nat → Nat → Nat → Int32} {sw : Bool} {t : List jE} {z : Nat × Nat × Nat × (Nat → Int32)}  : jev D 72 16 ([some (.ref 1), d1, some (.int x2)], []) [.int u0] (jX f g n2 p pa s sa sw (.ref (jpl w)) t, z) = if u0 = 0 then (some (.inl (some (.int 0)), (jX f g n2 p pa s sa sw (.ref (jpl w)) t, z))) else (jbO (K_r_emit D w 0 x2 f g n2 p pa s sa sw t z) (jk D 72 21 ([some (.ref 1), d1, some (.int x2)], []) [])) := by
  cases w
  · refine (jev_blk 1 (pc' := if u0 = 0 then 24 else 17) (L' := ([some (.ref 1), d1, some (.int x2)], [])) (S' := []) (h' := (jX f g n2 p pa s sa sw (.ref (jpl false)) t, z)) rfl).trans (jev_ite.trans (jite_congr (fun _ => ?_) (fun _ => ?_)))
    · refine (jev_blk 1 (pc' := 25) (L' := ([some (.ref 1), d1, some (.int x2)], [])) (S' := [.int 0]) (h' := (jX f g n2 p pa s sa sw (.ref (jpl false)) t, z)) rfl).trans ?_
      exact jev_fin rfl
    · refine (jev_blk 3 (pc' := 20) (L' := ([some (.ref 1), d1, some (.int x2)], [])) (S' := [.int x2, .int 0, .ref 1]) (h' := (jX f g n2 p pa s sa sw (.ref (jpl false)) t, z)) rfl).trans ?_
      exact jev_callb (nx := 21) (rest := []) rfl
  · refine (jev_blk 1 (pc' := if u0 = 0 then 24 else 17) (L' := ([some (.ref 1), d1, some (.int x2)], [])) (S' := []) (h' := (jX f g n2 p pa s sa sw (.ref (jpl true)) t, z)) rfl).trans (jev_ite.trans (jite_congr (fun _ => ?_) (fun _ => ?_)))
    · refine (jev_blk 1 (pc' := 25) (L' := ([some (.ref 1), d1, some (.int x2)], [])) (S' := [.int 0]) (h' := (jX f g n2 p pa s sa sw (.ref (jpl true)) t, z)) rfl).trans ?_
      exact jev_fin rfl
    · refine (jev_blk 3 (pc' := 20) (L' := ([some (.ref 1), d1, some (.int x2)], [])) (S' := [.int x2, .int 0, .ref 1]) (h' := (jX f g n2 p pa s sa sw (.ref (jpl true)) t, z)) rfl).trans ?_
      exact jev_callb (nx := 21) (rest := []) rfl
set_option maxRecDepth 20000 in
theorem E_r_readPart_43 {D : Nat} {w : Bool} {d1 : Option Value} {d2 : Option Value} {u0 : Int32} {f : Nat → Int32} {g : Nat → Nat → Int32} {n2 : Nat → Nat → Int64} {p : Nat → Nat → Int32} {pa : Nat → Nat → Nat → Int32} {s : Nat → Nat → Int32} {sa : Nat → Nat → Nat → Int32} {sw : Bool} {t : List jE} {z : Nat × Nat × Nat × (Nat → Int32)}  : jev D 72 43 ([some (.ref 1), d1, d2], []) [.int u0] (jX f g n2 p pa s sa sw (.ref (jpl w)) t, z) = if u0 = 0 then (some (.inl (some (.int 0)), (jX f g n2 p pa s sa sw (.ref (jpl w)) t, z))) else (some (.inl (some (.int 1)), (jX f g n2 p pa s sa sw (.ref (jpl w)) t, z))) := by
  cases w
  · refine (jev_blk 1 (pc' := if u0 = 0 then 46 else 44) (L' := ([some (.ref 1), d1, d2], [])) (S' := []) (h' := (jX f g n2 p pa s sa sw (.ref (jpl false)) t, z)) rfl).trans (jev_ite.trans (jite_congr (fun _ => ?_) (fun _ => ?_)))
    · refine (jev_blk 1 (pc' := 47) (L' := ([some (.ref 1), d1, d2], [])) (S' := [.int 0]) (h' := (jX f g n2 p pa s sa sw (.ref (jpl false)) t, z)) rfl).trans ?_
      exact jev_fin rfl
    · refine (jev_blk 2 (pc' := 47) (L' := ([some (.ref 1), d1, d2], [])) (S' := [.int 1]) (h' := (jX f g n2 p pa s sa sw (.ref (jpl false)) t, z)) rfl).trans ?_
      exact jev_fin rfl
  · refine (jev_blk 1 (pc' := if u0 = 0 then 46 else 44) (L' := ([some (.ref 1), d1, d2], [])) (S' := []) (h' := (jX f g n2 p pa s sa sw (.ref (jpl true)) t, z)) rfl).trans (jev_ite.trans (jite_congr (fun _ => ?_) (fun _ => ?_)))
    · refine (jev_blk 1 (pc' := 47) (L' := ([some (.ref 1), d1, d2], [])) (S' := [.int 0]) (h' := (jX f g n2 p pa s sa sw (.ref (jpl true)) t, z)) rfl).trans ?_
      exact jev_fin rfl
    · refine (jev_blk 2 (pc' := 47) (L' := ([some (.ref 1), d1, d2], [])) (S' := [.int 1]) (h' := (jX f g n2 p pa s sa sw (.ref (jpl true)) t, z)) rfl).trans ?_
      exact jev_fin rfl
set_option maxRecDepth 20000 in
theorem E_r_readPart_56 {D : Nat} {w : Bool} {d1 : Option Value} {d2 : Option Value} {u0 : Int32} {f : Nat → Int32} {g : Nat → Nat → Int32} {n2 : Nat → Nat → Int64} {p : Nat → Nat → Int32} {pa : Nat → Nat → Nat → Int32} {s : Nat → Nat → Int32} {sa : Nat → Nat → Nat → Int32} {sw : Bool} {t : List jE} {z : Nat × Nat × Nat × (Nat → Int32)}  : jev D 72 56 ([some (.ref 1), d1, d2], []) [.int u0] (jX f g n2 p pa s sa sw (.ref (jpl w)) t, z) = if u0 = 0 ∨ u0 = 1 then some (.inl (some (.int u0)), (jX f g n2 p pa s sa sw (.ref (jpl w)) t, z)) else none := by
  cases w
  · exact jev_fing rfl
  · exact jev_fing rfl
set_option maxRecDepth 20000 in
theorem E_r_readPart_67 {D : Nat} {w : Bool} {x1 : Int32} {d2 : Option Value} {f : Nat → Int32} {g : Nat → Nat → Int32} {n2 : Nat → Nat → Int64} {p : Nat → Nat → Int32} {pa : Nat → Nat → Nat → Int32} {s : Nat → Nat → Int32} {sa : Nat → Nat → Nat → Int32} {sw : Bool} {t : List jE} {z : Nat × Nat × Nat × (Nat → Int32)}  : jev (D + 1) 72 67 ([some (.ref 1), some (.int x1), d2], []) [] (jX f g n2 p pa s sa sw (.ref (jpl w)) t, z) = jbO (K_r_readEither D w (x1 + 1) f g n2 p pa s sa sw t z) (jk (D + 1) 72 72 ([some (.ref 1), some (.int x1), d2], []) []) := by
  cases w
  · refine (jev_blk 4 (pc' := 71) (L' := ([some (.ref 1), some (.int x1), d2], [])) (S' := [.int (x1 + 1), .ref 1]) (h' := (jX f g n2 p pa s sa sw (.ref (jpl false)) t, z)) rfl).trans ?_
    exact jev_callb (nx := 72) (rest := []) rfl
  · refine (jev_blk 4 (pc' := 71) (L' := ([some (.ref 1), some (.int x1), d2], [])) (S' := [.int (x1 + 1), .ref 1]) (h' := (jX f g n2 p pa s sa sw (.ref (jpl true)) t, z)) rfl).trans ?_
    exact jev_callb (nx := 72) (rest := []) rfl
set_option maxRecDepth 20000 in
theorem E_r_readPart_63 {D : Nat} {w : Bool} {d1 : Option Value} {d2 : Option Value} {u0 : Int32} {f : Nat → Int32} {g : Nat → Nat → Int32} {n2 : Nat → Nat → Int64} {p : Nat → Nat → Int32} {pa : Nat → Nat → Nat → Int32} {s : Nat → Nat → Int32} {sa : Nat → Nat → Nat → Int32} {sw : Bool} {t : List jE} {z : Nat × Nat × Nat × (Nat → Int32)}  : jev D 72 63 ([some (.ref 1), d1, d2], []) [.int u0] (jX f g n2 p pa s sa sw (.ref (jpl w)) t, z) = if u0 = 0 ∨ u0 = 1 then some (.inl (some (.int u0)), (jX f g n2 p pa s sa sw (.ref (jpl w)) t, z)) else none := by
  cases w
  · exact jev_fing rfl
  · exact jev_fing rfl
set_option maxRecDepth 20000 in
theorem E_r_readPart_21 {D : Nat} {w : Bool} {d1 : Option Value} {d2 : Option Value} {u0 : Int32} {f : Nat → Int32} {g : Nat → Nat → Int32} {n2 : Nat → Nat → Int64} {p : Nat → Nat → Int32} {pa : Nat → Nat → Nat → Int32} {s : Nat → Nat → Int32} {sa : Nat → Nat → Nat → Int32} {sw : Bool} {t : List jE} {z : Nat × Nat × Nat × (Nat → Int32)}  : jev D 72 21 ([some (.ref 1), d1, d2], []) [.int u0] (jX f g n2 p pa s sa sw (.ref (jpl w)) t, z) = if u0 = 0 then (some (.inl (some (.int 0)), (jX f g n2 p pa s sa sw (.ref (jpl w)) t, z))) else (some (.inl (some (.int 1)), (jX f g n2 p pa s sa sw (.ref (jpl w)) t, z))) := by
  cases w
  · refine (jev_blk 1 (pc' := if u0 = 0 then 24 else 22) (L' := ([some (.ref 1), d1, d2], [])) (S' := []) (h' := (jX f g n2 p pa s sa sw (.ref (jpl false)) t, z)) rfl).trans (jev_ite.trans (jite_congr (fun _ => ?_) (fun _ => ?_)))
    · refine (jev_blk 1 (pc' := 25) (L' := ([some (.ref 1), d1, d2], [])) (S' := [.int 0]) (h' := (jX f g n2 p pa s sa sw (.ref (jpl false)) t, z)) rfl).trans ?_
      exact jev_fin rfl
    · refine (jev_blk 2 (pc' := 25) (L' := ([some (.ref 1), d1, d2], [])) (S' := [.int 1]) (h' := (jX f g n2 p pa s sa sw (.ref (jpl false)) t, z)) rfl).trans ?_
      exact jev_fin rfl
  · refine (jev_blk 1 (pc' := if u0 = 0 then 24 else 22) (L' := ([some (.ref 1), d1, d2], [])) (S' := []) (h' := (jX f g n2 p pa s sa sw (.ref (jpl true)) t, z)) rfl).trans (jev_ite.trans (jite_congr (fun _ => ?_) (fun _ => ?_)))
    · refine (jev_blk 1 (pc' := 25) (L' := ([some (.ref 1), d1, d2], [])) (S' := [.int 0]) (h' := (jX f g n2 p pa s sa sw (.ref (jpl true)) t, z)) rfl).trans ?_
      exact jev_fin rfl
    · refine (jev_blk 2 (pc' := 25) (L' := ([some (.ref 1), d1, d2], [])) (S' := [.int 1]) (h' := (jX f g n2 p pa s sa sw (.ref (jpl true)) t, z)) rfl).trans ?_
      exact jev_fin rfl
set_option maxRecDepth 20000 in
theorem E_r_readPart_72 {D : Nat} {w : Bool} {d1 : Option Value} {d2 : Option Value} {u0 : Int32} {f : Nat → Int32} {g : Nat → Nat → Int32} {n2 : Nat → Nat → Int64} {p : Nat → Nat → Int32} {pa : Nat → Nat → Nat → Int32} {s : Nat → Nat → Int32} {sa : Nat → Nat → Nat → Int32} {sw : Bool} {t : List jE} {z : Nat × Nat × Nat × (Nat → Int32)}  : jev D 72 72 ([some (.ref 1), d1, d2], []) [.int u0] (jX f g n2 p pa s sa sw (.ref (jpl w)) t, z) = if u0 = 0 then (some (.inl (some (.int 0)), (jX f g n2 p pa s sa sw (.ref (jpl w)) t, z))) else (jbO (K_k_isSign D 102 f g n2 p pa s sa sw (.ref (jpl w)) t z) (jk D 72 79 ([some (.ref 1), d1, d2], []) [])) := by
  cases w
  · refine (jev_blk 1 (pc' := if u0 = 0 then 73 else 75) (L' := ([some (.ref 1), d1, d2], [])) (S' := []) (h' := (jX f g n2 p pa s sa sw (.ref (jpl false)) t, z)) rfl).trans (jev_ite.trans (jite_congr (fun _ => ?_) (fun _ => ?_)))
    · refine (jev_blk 1 (pc' := 74) (L' := ([some (.ref 1), d1, d2], [])) (S' := [.int 0]) (h' := (jX f g n2 p pa s sa sw (.ref (jpl false)) t, z)) rfl).trans ?_
      exact jev_fin rfl
    · refine (jev_blk 3 (pc' := 78) (L' := ([some (.ref 1), d1, d2], [])) (S' := [.int 102, .ref 2]) (h' := (jX f g n2 p pa s sa sw (.ref (jpl false)) t, z)) rfl).trans ?_
      exact jev_callb (nx := 79) (rest := []) rfl
  · refine (jev_blk 1 (pc' := if u0 = 0 then 73 else 75) (L' := ([some (.ref 1), d1, d2], [])) (S' := []) (h' := (jX f g n2 p pa s sa sw (.ref (jpl true)) t, z)) rfl).trans (jev_ite.trans (jite_congr (fun _ => ?_) (fun _ => ?_)))
    · refine (jev_blk 1 (pc' := 74) (L' := ([some (.ref 1), d1, d2], [])) (S' := [.int 0]) (h' := (jX f g n2 p pa s sa sw (.ref (jpl true)) t, z)) rfl).trans ?_
      exact jev_fin rfl
    · refine (jev_blk 3 (pc' := 78) (L' := ([some (.ref 1), d1, d2], [])) (S' := [.int 102, .ref 2]) (h' := (jX f g n2 p pa s sa sw (.ref (jpl true)) t, z)) rfl).trans ?_
      exact jev_callb (nx := 79) (rest := []) rfl
set_option maxRecDepth 20000 in
theorem E_r_readPart_79 {D : Nat} {w : Bool} {d1 : Option Value} {d2 : Option Value} {u0 : Int32} {f : Nat → Int32} {g : Nat → Nat → Int32} {n2 : Nat → Nat → Int64} {p : Nat → Nat → Int32} {pa : Nat → Nat → Nat → Int32} {s : Nat → Nat → Int32} {sa : Nat → Nat → Nat → Int32} {sw : Bool} {t : List jE} {z : Nat × Nat × Nat × (Nat → Int32)}  : jev D 72 79 ([some (.ref 1), d1, d2], []) [.int u0] (jX f g n2 p pa s sa sw (.ref (jpl w)) t, z) = if u0 = 0 then (jbO (K_r_fail D w 1 f g n2 p pa s sa sw t z) (jk D 72 83 ([some (.ref 1), d1, d2], []) [])) else (jbO (K_k_step D f g n2 p pa s sa sw (.ref (jpl w)) t z) (jk D 72 87 ([some (.ref 1), d1, d2], []) [])) := by
  cases w
  · refine (jev_blk 1 (pc' := if u0 = 0 then 80 else 84) (L' := ([some (.ref 1), d1, d2], [])) (S' := []) (h' := (jX f g n2 p pa s sa sw (.ref (jpl false)) t, z)) rfl).trans (jev_ite.trans (jite_congr (fun _ => ?_) (fun _ => ?_)))
    · refine (jev_blk 2 (pc' := 82) (L' := ([some (.ref 1), d1, d2], [])) (S' := [.int 1, .ref 1]) (h' := (jX f g n2 p pa s sa sw (.ref (jpl false)) t, z)) rfl).trans ?_
      exact jev_callb (nx := 83) (rest := []) rfl
    · refine (jev_blk 2 (pc' := 86) (L' := ([some (.ref 1), d1, d2], [])) (S' := [.ref 2]) (h' := (jX f g n2 p pa s sa sw (.ref (jpl false)) t, z)) rfl).trans ?_
      exact jev_callb (nx := 87) (rest := []) rfl
  · refine (jev_blk 1 (pc' := if u0 = 0 then 80 else 84) (L' := ([some (.ref 1), d1, d2], [])) (S' := []) (h' := (jX f g n2 p pa s sa sw (.ref (jpl true)) t, z)) rfl).trans (jev_ite.trans (jite_congr (fun _ => ?_) (fun _ => ?_)))
    · refine (jev_blk 2 (pc' := 82) (L' := ([some (.ref 1), d1, d2], [])) (S' := [.int 1, .ref 1]) (h' := (jX f g n2 p pa s sa sw (.ref (jpl true)) t, z)) rfl).trans ?_
      exact jev_callb (nx := 83) (rest := []) rfl
    · refine (jev_blk 2 (pc' := 86) (L' := ([some (.ref 1), d1, d2], [])) (S' := [.ref 2]) (h' := (jX f g n2 p pa s sa sw (.ref (jpl true)) t, z)) rfl).trans ?_
      exact jev_callb (nx := 87) (rest := []) rfl
set_option maxRecDepth 20000 in
theorem E_r_readPart_83 {D : Nat} {w : Bool} {d1 : Option Value} {d2 : Option Value} {u0 : Int32} {f : Nat → Int32} {g : Nat → Nat → Int32} {n2 : Nat → Nat → Int64} {p : Nat → Nat → Int32} {pa : Nat → Nat → Nat → Int32} {s : Nat → Nat → Int32} {sa : Nat → Nat → Nat → Int32} {sw : Bool} {t : List jE} {z : Nat × Nat × Nat × (Nat → Int32)}  : jev D 72 83 ([some (.ref 1), d1, d2], []) [.int u0] (jX f g n2 p pa s sa sw (.ref (jpl w)) t, z) = if u0 = 0 ∨ u0 = 1 then some (.inl (some (.int u0)), (jX f g n2 p pa s sa sw (.ref (jpl w)) t, z)) else none := by
  cases w
  · exact jev_fing rfl
  · exact jev_fing rfl
set_option maxRecDepth 20000 in
theorem E_r_readPart_87 {D : Nat} {w : Bool} {d1 : Option Value} {d2 : Option Value} {f : Nat → Int32} {g : Nat → Nat → Int32} {n2 : Nat → Nat → Int64} {p : Nat → Nat → Int32} {pa : Nat → Nat → Nat → Int32} {s : Nat → Nat → Int32} {sa : Nat → Nat → Nat → Int32} {sw : Bool} {t : List jE} {z : Nat × Nat × Nat × (Nat → Int32)}  : jev D 72 87 ([some (.ref 1), d1, d2], []) [] (jX f g n2 p pa s sa sw (.ref (jpl w)) t, z) = some (.inl (some (.int 1)), (jX f g n2 p pa s sa sw (.ref (jpl w)) t, z)) := by
  cases w
  · refine (jev_blk 1 (pc' := 88) (L' := ([some (.ref 1), d1, d2], [])) (S' := [.int 1]) (h' := (jX f g n2 p pa s sa sw (.ref (jpl false)) t, z)) rfl).trans ?_
    exact jev_fin rfl
  · refine (jev_blk 1 (pc' := 88) (L' := ([some (.ref 1), d1, d2], [])) (S' := [.int 1]) (h' := (jX f g n2 p pa s sa sw (.ref (jpl true)) t, z)) rfl).trans ?_
    exact jev_fin rfl
set_option maxRecDepth 20000 in
theorem E_k_pack {D : Nat}  {a0 : Int32} {a1 : Int32} {a2 : Int32} {f : Nat → Int32} {g : Nat → Nat → Int32} {n2 : Nat → Nat → Int64} {p : Nat → Nat → Int32} {pa : Nat → Nat → Nat → Int32} {s : Nat → Nat → Int32} {sa : Nat → Nat → Nat → Int32} {sw : Bool} {rp : Value} {t : List jE} {z : Nat × Nat × Nat × (Nat → Int32)}  : K_k_pack D a0 a1 a2 f g n2 p pa s sa sw rp t z = if a1 < 6 then (some (.inl (some (.int (a0 ||| (((a2 - 97) + 1) <<< ((5 * (5 - a1)) &&& 31))))), (jX f g n2 p pa s sa sw rp t, z))) else (some (.inl (some (.int a0)), (jX f g n2 p pa s sa sw rp t, z))) := by
  refine (jev_blk 3 (pc' := if a1 < 6 then 3 else 17) (L' := ([some (.int a0), some (.int a1), some (.int a2)], [])) (S' := []) (h' := (jX f g n2 p pa s sa sw rp t, z)) rfl).trans (jev_ite.trans (jite_congr (fun _ => ?_) (fun _ => ?_)))
  · refine (jev_blk 14 (pc' := 18) (L' := ([some (.int a0), some (.int a1), some (.int a2)], [])) (S' := [.int (a0 ||| (((a2 - 97) + 1) <<< ((5 * (5 - a1)) &&& 31)))]) (h' := (jX f g n2 p pa s sa sw rp t, z)) rfl).trans ?_
    exact jev_fin rfl
  · refine (jev_blk 1 (pc' := 18) (L' := ([some (.int a0), some (.int a1), some (.int a2)], [])) (S' := [.int a0]) (h' := (jX f g n2 p pa s sa sw rp t, z)) rfl).trans ?_
    exact jev_fin rfl
set_option maxRecDepth 20000 in
theorem E_k_start {D : Nat}  {a0 : Int32} {f : Nat → Int32} {g : Nat → Nat → Int32} {n2 : Nat → Nat → Int64} {p : Nat → Nat → Int32} {pa : Nat → Nat → Nat → Int32} {s : Nat → Nat → Int32} {sa : Nat → Nat → Nat → Int32} {sw : Bool} {rp : Value} {t : List jE} {z : Nat × Nat × Nat × (Nat → Int32)}  : K_k_start D a0 f g n2 p pa s sa sw rp t z = jbO (K_k_step D (jup (jup f 10 (0)) 9 ((if 700 < a0 then 700 else a0))) g n2 p pa s sa sw rp t z) (jk D 87 10 ([some (.ref 2), some (.int a0)], []) []) := by
  refine (jev_blk 3 (pc' := 3) (L' := ([some (.ref 2), some (.int a0)], [])) (S' := [.int 700, .int a0, .ref 2]) (h' := (jX f g n2 p pa s sa sw rp t, z)) rfl).trans ?_
  refine (jev_prim (a := 8) (As := [.int a0, .int 700]) (nx := 4) (rest := [.ref 2]) rfl (r := some (.int (if 700 < a0 then 700 else a0))) (h' := (jX f g n2 p pa s sa sw rp t, z)) rfl).trans ?_
  refine (jev_blk 5 (pc' := 9) (L' := ([some (.ref 2), some (.int a0)], [])) (S' := [.ref 2]) (h' := (jX (jup (jup f 10 (0)) 9 ((if 700 < a0 then 700 else a0))) g n2 p pa s sa sw rp t, z)) rfl).trans ?_
  exact jev_callb (nx := 10) (rest := []) rfl
set_option maxRecDepth 20000 in
theorem E_k_start_10 {D : Nat}  {d1 : Option Value} {f : Nat → Int32} {g : Nat → Nat → Int32} {n2 : Nat → Nat → Int64} {p : Nat → Nat → Int32} {pa : Nat → Nat → Nat → Int32} {s : Nat → Nat → Int32} {sa : Nat → Nat → Nat → Int32} {sw : Bool} {rp : Value} {t : List jE} {z : Nat × Nat × Nat × (Nat → Int32)}  : jev D 87 10 ([some (.ref 2), d1], []) [] (jX f g n2 p pa s sa sw rp t, z) = some (.inl (none), (jX f g n2 p pa s sa sw rp t, z)) := by
  exact jev_fin rfl
set_option maxRecDepth 20000 in
theorem E_k_step {D : Nat}   {f : Nat → Int32} {g : Nat → Nat → Int32} {n2 : Nat → Nat → Int64} {p : Nat → Nat → Int32} {pa : Nat → Nat → Nat → Int32} {s : Nat → Nat → Int32} {sa : Nat → Nat → Nat → Int32} {sw : Bool} {rp : Value} {t : List jE} {z : Nat × Nat × Nat × (Nat → Int32)} : K_k_step D f g n2 p pa s sa sw rp t z = jev D 88 0 ([some (.ref 2)], []) [] (jX f g n2 p pa s sa sw rp t, z) := rfl
set_option maxRecDepth 20000 in
theorem L_k_step_0 {D : Nat}   {f : Nat → Int32} {g : Nat → Nat → Int32} {n2 : Nat → Nat → Int64} {p : Nat → Nat → Int32} {pa : Nat → Nat → Nat → Int32} {s : Nat → Nat → Int32} {sa : Nat → Nat → Nat → Int32} {sw : Bool} {rp : Value} {t : List jE} {z : Nat × Nat × Nat × (Nat → Int32)}  : jev D 88 0 ([some (.ref 2)], []) [] (jX f g n2 p pa s sa sw rp t, z) = if (f 10) < (f 9) then (if jout (f 10) 700 then none else (if (g 0 (f 10).toNatClampNeg) = 10 then (K_k_step_19 D f g n2 p pa s sa sw rp t z) else (if jout (f 10) 700 then none else (if (g 0 (f 10).toNatClampNeg) = 32 then (K_k_step_19 D f g n2 p pa s sa sw rp t z) else (K_k_step_26 D f g n2 p pa s sa sw rp t z))))) else (K_k_step_26 D f g n2 p pa s sa sw rp t z) := by
  refine (jev_blk 5 (pc' := if (f 10) < (f 9) then 5 else 26) (L' := ([some (.ref 2)], [])) (S' := []) (h' := (jX f g n2 p pa s sa sw rp t, z)) rfl).trans (jev_ite.trans (jite_congr (fun _ => ?_) (fun _ => ?_)))
  · refine (jev_blk 4 (pc' := 9) (L' := ([some (.ref 2)], [])) (S' := [.int (f 10), .ref 3]) (h' := (jX f g n2 p pa s sa sw rp t, z)) rfl).trans ?_
    refine (jev_grd (q := jout (f 10) 700) (pc' := 10) (L' := ([some (.ref 2)], [])) (S' := [.int (g 0 (f 10).toNatClampNeg)]) (h' := (jX f g n2 p pa s sa sw rp t, z)) rfl).trans (jite_congr (fun _ => rfl) (fun _ => ?_))
    refine (jev_blk 2 (pc' := if (g 0 (f 10).toNatClampNeg) = 10 then 19 else 12) (L' := ([some (.ref 2)], [])) (S' := []) (h' := (jX f g n2 p pa s sa sw rp t, z)) rfl).trans (jev_ite.trans (jite_congr (fun _ => ?_) (fun _ => ?_)))
    · rfl
    · refine (jev_blk 4 (pc' := 16) (L' := ([some (.ref 2)], [])) (S' := [.int (f 10), .ref 3]) (h' := (jX f g n2 p pa s sa sw rp t, z)) rfl).trans ?_
      refine (jev_grd (q := jout (f 10) 700) (pc' := 17) (L' := ([some (.ref 2)], [])) (S' := [.int (g 0 (f 10).toNatClampNeg)]) (h' := (jX f g n2 p pa s sa sw rp t, z)) rfl).trans (jite_congr (fun _ => rfl) (fun _ => ?_))
      refine (jev_blk 2 (pc' := if (g 0 (f 10).toNatClampNeg) = 32 then 19 else 26) (L' := ([some (.ref 2)], [])) (S' := []) (h' := (jX f g n2 p pa s sa sw rp t, z)) rfl).trans (jev_ite.trans (jite_congr (fun _ => ?_) (fun _ => ?_)))
      · rfl
      · rfl
  · rfl
set_option maxRecDepth 20000 in
theorem E_k_step_19 {D : Nat}   {f : Nat → Int32} {g : Nat → Nat → Int32} {n2 : Nat → Nat → Int64} {p : Nat → Nat → Int32} {pa : Nat → Nat → Nat → Int32} {s : Nat → Nat → Int32} {sa : Nat → Nat → Nat → Int32} {sw : Bool} {rp : Value} {t : List jE} {z : Nat × Nat × Nat × (Nat → Int32)}  : K_k_step_19 D f g n2 p pa s sa sw rp t z = jev D 88 0 ([some (.ref 2)], []) [] (jX (jup f 10 (((f 10) + 1))) g n2 p pa s sa sw rp t, z) := by
  exact jev_blk 7 rfl
set_option maxRecDepth 20000 in
theorem E_k_step_26 {D : Nat}   {f : Nat → Int32} {g : Nat → Nat → Int32} {n2 : Nat → Nat → Int64} {p : Nat → Nat → Int32} {pa : Nat → Nat → Nat → Int32} {s : Nat → Nat → Int32} {sa : Nat → Nat → Nat → Int32} {sw : Bool} {rp : Value} {t : List jE} {z : Nat × Nat × Nat × (Nat → Int32)}  : K_k_step_26 D f g n2 p pa s sa sw rp t z = if (f 10) < (f 9) then (jbO (K_k_isLetter D (f 10) (jup (jup f 12 (0)) 13 ((f 10))) g n2 p pa s sa sw rp t z) (jk D 88 46 ([some (.ref 2)], []) [])) else (some (.inl (none), (jX (jup (jup (jup f 11 (0)) 12 (0)) 13 ((f 10))) g n2 p pa s sa sw rp t, z))) := by
  refine (jev_blk 12 (pc' := if (f 10) < (f 9) then 42 else 38) (L' := ([some (.ref 2)], [])) (S' := []) (h' := (jX (jup (jup f 12 (0)) 13 ((f 10))) g n2 p pa s sa sw rp t, z)) rfl).trans (jev_ite.trans (jite_congr (fun _ => ?_) (fun _ => ?_)))
  · refine (jev_blk 3 (pc' := 45) (L' := ([some (.ref 2)], [])) (S' := [.int (f 10), .ref 2]) (h' := (jX (jup (jup f 12 (0)) 13 ((f 10))) g n2 p pa s sa sw rp t, z)) rfl).trans ?_
    exact jev_callb (nx := 46) (rest := []) rfl
  · refine (jev_blk 4 (pc' := 60) (L' := ([some (.ref 2)], [])) (S' := []) (h' := (jX (jup (jup (jup f 11 (0)) 12 (0)) 13 ((f 10))) g n2 p pa s sa sw rp t, z)) rfl).trans ?_
    exact jev_fin rfl
set_option maxRecDepth 20000 in
theorem E_k_step_46 {D : Nat}  {u0 : Int32} {f : Nat → Int32} {g : Nat → Nat → Int32} {n2 : Nat → Nat → Int64} {p : Nat → Nat → Int32} {pa : Nat → Nat → Nat → Int32} {s : Nat → Nat → Int32} {sa : Nat → Nat → Nat → Int32} {sw : Bool} {rp : Value} {t : List jE} {z : Nat × Nat × Nat × (Nat → Int32)}  : jev D 88 46 ([some (.ref 2)], []) [.int u0] (jX f g n2 p pa s sa sw rp t, z) = if u0 = 0 then (jbO (K_k_isDigit D (f 10) f g n2 p pa s sa sw rp t z) (jk D 88 54 ([some (.ref 2)], []) [])) else (jbO (K_k_readWord D f g n2 p pa s sa sw rp t z) (jk D 88 49 ([some (.ref 2)], []) [])) := by
  refine (jev_blk 1 (pc' := if u0 = 0 then 50 else 47) (L' := ([some (.ref 2)], [])) (S' := []) (h' := (jX f g n2 p pa s sa sw rp t, z)) rfl).trans (jev_ite.trans (jite_congr (fun _ => ?_) (fun _ => ?_)))
  · refine (jev_blk 3 (pc' := 53) (L' := ([some (.ref 2)], [])) (S' := [.int (f 10), .ref 2]) (h' := (jX f g n2 p pa s sa sw rp t, z)) rfl).trans ?_
    exact jev_callb (nx := 54) (rest := []) rfl
  · refine (jev_blk 1 (pc' := 48) (L' := ([some (.ref 2)], [])) (S' := [.ref 2]) (h' := (jX f g n2 p pa s sa sw rp t, z)) rfl).trans ?_
    exact jev_callb (nx := 49) (rest := []) rfl
set_option maxRecDepth 20000 in
theorem E_k_step_54 {D : Nat}  {u0 : Int32} {f : Nat → Int32} {g : Nat → Nat → Int32} {n2 : Nat → Nat → Int64} {p : Nat → Nat → Int32} {pa : Nat → Nat → Nat → Int32} {s : Nat → Nat → Int32} {sa : Nat → Nat → Nat → Int32} {sw : Bool} {rp : Value} {t : List jE} {z : Nat × Nat × Nat × (Nat → Int32)}  : jev D 88 54 ([some (.ref 2)], []) [.int u0] (jX f g n2 p pa s sa sw rp t, z) = if u0 = 0 then (jbO (K_k_readSign D f g n2 p pa s sa sw rp t z) (jk D 88 60 ([some (.ref 2)], []) [])) else (jbO (K_k_readNumber D f g n2 p pa s sa sw rp t z) (jk D 88 57 ([some (.ref 2)], []) [])) := by
  refine (jev_blk 1 (pc' := if u0 = 0 then 58 else 55) (L' := ([some (.ref 2)], [])) (S' := []) (h' := (jX f g n2 p pa s sa sw rp t, z)) rfl).trans (jev_ite.trans (jite_congr (fun _ => ?_) (fun _ => ?_)))
  · refine (jev_blk 1 (pc' := 59) (L' := ([some (.ref 2)], [])) (S' := [.ref 2]) (h' := (jX f g n2 p pa s sa sw rp t, z)) rfl).trans ?_
    exact jev_callb (nx := 60) (rest := []) rfl
  · refine (jev_blk 1 (pc' := 56) (L' := ([some (.ref 2)], [])) (S' := [.ref 2]) (h' := (jX f g n2 p pa s sa sw rp t, z)) rfl).trans ?_
    exact jev_callb (nx := 57) (rest := []) rfl
set_option maxRecDepth 20000 in
theorem E_k_step_49 {D : Nat}   {f : Nat → Int32} {g : Nat → Nat → Int32} {n2 : Nat → Nat → Int64} {p : Nat → Nat → Int32} {pa : Nat → Nat → Nat → Int32} {s : Nat → Nat → Int32} {sa : Nat → Nat → Nat → Int32} {sw : Bool} {rp : Value} {t : List jE} {z : Nat × Nat × Nat × (Nat → Int32)}  : jev D 88 49 ([some (.ref 2)], []) [] (jX f g n2 p pa s sa sw rp t, z) = some (.inl (none), (jX f g n2 p pa s sa sw rp t, z)) := by
  refine (jev_blk 1 (pc' := 60) (L' := ([some (.ref 2)], [])) (S' := []) (h' := (jX f g n2 p pa s sa sw rp t, z)) rfl).trans ?_
  exact jev_fin rfl
set_option maxRecDepth 20000 in
theorem E_k_step_60 {D : Nat}   {f : Nat → Int32} {g : Nat → Nat → Int32} {n2 : Nat → Nat → Int64} {p : Nat → Nat → Int32} {pa : Nat → Nat → Nat → Int32} {s : Nat → Nat → Int32} {sa : Nat → Nat → Nat → Int32} {sw : Bool} {rp : Value} {t : List jE} {z : Nat × Nat × Nat × (Nat → Int32)}  : jev D 88 60 ([some (.ref 2)], []) [] (jX f g n2 p pa s sa sw rp t, z) = some (.inl (none), (jX f g n2 p pa s sa sw rp t, z)) := by
  exact jev_fin rfl
