-- EQUATIONS: one a block; E_ unfolds, L_ a loop's head
set_option maxRecDepth 20000 in
theorem E_r_readScare {D : Nat} {w : Bool}  {f : Nat → Int32} {g : Nat → Nat → Int32} {n2 : Nat → Nat → Int64} {p : Nat → Nat → Int32} {pa : Nat → Nat → Nat → Int32} {s : Nat → Nat → Int32} {sa : Nat → Nat → Nat → Int32} {sw : Bool} {t : List jE} {z : Nat × Nat × Nat × (Nat → Int32)}  : K_r_readScare D w f g n2 p pa s sa sw t z = if (p (jq w) 3) < 6 then (jbO (K_k_step D (jup f 5 (1)) g n2 p pa s sa sw (.ref (jpl w)) t z) (jk D 57 17 ([some (.ref 1), some (.int (p (jq w) 3)), none], []) [])) else (jbO (K_r_fail D w 2 f g n2 p pa s sa sw t z) (jk D 57 10 ([some (.ref 1), some (.int (p (jq w) 3)), none], []) [])) := by
  cases w
  · refine (jev_blk 7 (pc' := if (p (jq false) 3) < 6 then 11 else 7) (L' := ([some (.ref 1), some (.int (p (jq false) 3)), none], [])) (S' := []) (h' := (jX f g n2 p pa s sa sw (.ref (jpl false)) t, z)) rfl).trans (jev_ite.trans (jite_congr (fun _ => ?_) (fun _ => ?_)))
    · refine (jev_blk 5 (pc' := 16) (L' := ([some (.ref 1), some (.int (p (jq false) 3)), none], [])) (S' := [.ref 2]) (h' := (jX (jup f 5 (1)) g n2 p pa s sa sw (.ref (jpl false)) t, z)) rfl).trans ?_
      exact jev_callb (nx := 17) (rest := []) rfl
    · refine (jev_blk 2 (pc' := 9) (L' := ([some (.ref 1), some (.int (p (jq false) 3)), none], [])) (S' := [.int 2, .ref 1]) (h' := (jX f g n2 p pa s sa sw (.ref (jpl false)) t, z)) rfl).trans ?_
      exact jev_callb (nx := 10) (rest := []) rfl
  · refine (jev_blk 7 (pc' := if (p (jq true) 3) < 6 then 11 else 7) (L' := ([some (.ref 1), some (.int (p (jq true) 3)), none], [])) (S' := []) (h' := (jX f g n2 p pa s sa sw (.ref (jpl true)) t, z)) rfl).trans (jev_ite.trans (jite_congr (fun _ => ?_) (fun _ => ?_)))
    · refine (jev_blk 5 (pc' := 16) (L' := ([some (.ref 1), some (.int (p (jq true) 3)), none], [])) (S' := [.ref 2]) (h' := (jX (jup f 5 (1)) g n2 p pa s sa sw (.ref (jpl true)) t, z)) rfl).trans ?_
      exact jev_callb (nx := 17) (rest := []) rfl
    · refine (jev_blk 2 (pc' := 9) (L' := ([some (.ref 1), some (.int (p (jq true) 3)), none], [])) (S' := [.int 2, .ref 1]) (h' := (jX f g n2 p pa s sa sw (.ref (jpl true)) t, z)) rfl).trans ?_
      exact jev_callb (nx := 10) (rest := []) rfl
set_option maxRecDepth 20000 in
theorem E_r_readScare_17 {D : Nat} {w : Bool} {x1 : Int32} {d2 : Option Value} {f : Nat → Int32} {g : Nat → Nat → Int32} {n2 : Nat → Nat → Int64} {p : Nat → Nat → Int32} {pa : Nat → Nat → Nat → Int32} {s : Nat → Nat → Int32} {sa : Nat → Nat → Nat → Int32} {sw : Bool} {t : List jE} {z : Nat × Nat × Nat × (Nat → Int32)}  : jev D 57 17 ([some (.ref 1), some (.int x1), d2], []) [] (jX f g n2 p pa s sa sw (.ref (jpl w)) t, z) = if (f 11) = 3 then (jbO (K_p_find D w (f 12) f g n2 p pa s sa sw (.ref (jpl w)) t z) (jk D 57 32 ([some (.ref 1), some (.int x1), d2], []) [])) else (jbO (K_r_fail D w 1 f g n2 p pa s sa sw t z) (jk D 57 25 ([some (.ref 1), some (.int x1), d2], []) [])) := by
  cases w
  · refine (jev_blk 5 (pc' := if (f 11) = 3 then 26 else 22) (L' := ([some (.ref 1), some (.int x1), d2], [])) (S' := []) (h' := (jX f g n2 p pa s sa sw (.ref (jpl false)) t, z)) rfl).trans (jev_ite.trans (jite_congr (fun _ => ?_) (fun _ => ?_)))
    · refine (jev_blk 5 (pc' := 31) (L' := ([some (.ref 1), some (.int x1), d2], [])) (S' := [.int (f 12), .ref (jpl false)]) (h' := (jX f g n2 p pa s sa sw (.ref (jpl false)) t, z)) rfl).trans ?_
      exact jev_callb (nx := 32) (rest := []) rfl
    · refine (jev_blk 2 (pc' := 24) (L' := ([some (.ref 1), some (.int x1), d2], [])) (S' := [.int 1, .ref 1]) (h' := (jX f g n2 p pa s sa sw (.ref (jpl false)) t, z)) rfl).trans ?_
      exact jev_callb (nx := 25) (rest := []) rfl
  · refine (jev_blk 5 (pc' := if (f 11) = 3 then 26 else 22) (L' := ([some (.ref 1), some (.int x1), d2], [])) (S' := []) (h' := (jX f g n2 p pa s sa sw (.ref (jpl true)) t, z)) rfl).trans (jev_ite.trans (jite_congr (fun _ => ?_) (fun _ => ?_)))
    · refine (jev_blk 5 (pc' := 31) (L' := ([some (.ref 1), some (.int x1), d2], [])) (S' := [.int (f 12), .ref (jpl true)]) (h' := (jX f g n2 p pa s sa sw (.ref (jpl true)) t, z)) rfl).trans ?_
      exact jev_callb (nx := 32) (rest := []) rfl
    · refine (jev_blk 2 (pc' := 24) (L' := ([some (.ref 1), some (.int x1), d2], [])) (S' := [.int 1, .ref 1]) (h' := (jX f g n2 p pa s sa sw (.ref (jpl true)) t, z)) rfl).trans ?_
      exact jev_callb (nx := 25) (rest := []) rfl
set_option maxRecDepth 20000 in
theorem E_r_readScare_10 {D : Nat} {w : Bool} {d1 : Option Value} {d2 : Option Value} {u0 : Int32} {f : Nat → Int32} {g : Nat → Nat → Int32} {n2 : Nat → Nat → Int64} {p : Nat → Nat → Int32} {pa : Nat → Nat → Nat → Int32} {s : Nat → Nat → Int32} {sa : Nat → Nat → Nat → Int32} {sw : Bool} {t : List jE} {z : Nat × Nat × Nat × (Nat → Int32)}  : jev D 57 10 ([some (.ref 1), d1, d2], []) [.int u0] (jX f g n2 p pa s sa sw (.ref (jpl w)) t, z) = if u0 = 0 ∨ u0 = 1 then some (.inl (some (.int u0)), (jX f g n2 p pa s sa sw (.ref (jpl w)) t, z)) else none := by
  cases w
  · exact jev_fing rfl
  · exact jev_fing rfl
set_option maxRecDepth 20000 in
theorem E_r_readScare_32 {D : Nat} {w : Bool} {x1 : Int32} {d2 : Option Value} {u0 : Int32} {f : Nat → Int32} {g : Nat → Nat → Int32} {n2 : Nat → Nat → Int64} {p : Nat → Nat → Int32} {pa : Nat → Nat → Nat → Int32} {s : Nat → Nat → Int32} {sa : Nat → Nat → Nat → Int32} {sw : Bool} {t : List jE} {z : Nat × Nat × Nat × (Nat → Int32)}  : jev D 57 32 ([some (.ref 1), some (.int x1), d2], []) [.int u0] (jX f g n2 p pa s sa sw (.ref (jpl w)) t, z) = if u0 = (-1) then (jbO (K_r_take D w f g n2 p pa s sa sw t z) (jk D 57 44 ([some (.ref 1), some (.int x1), d2], []) [.int x1, .ref ((jpl w) + 2)])) else (jbO (K_r_fail D w 3 f g n2 p pa s sa sw t z) (jk D 57 37 ([some (.ref 1), some (.int x1), d2], []) [])) := by
  cases w
  · refine (jev_blk 2 (pc' := if u0 = (-1) then 38 else 34) (L' := ([some (.ref 1), some (.int x1), d2], [])) (S' := []) (h' := (jX f g n2 p pa s sa sw (.ref (jpl false)) t, z)) rfl).trans (jev_ite.trans (jite_congr (fun _ => ?_) (fun _ => ?_)))
    · refine (jev_blk 5 (pc' := 43) (L' := ([some (.ref 1), some (.int x1), d2], [])) (S' := [.ref 1, .int x1, .ref ((jpl false) + 2)]) (h' := (jX f g n2 p pa s sa sw (.ref (jpl false)) t, z)) rfl).trans ?_
      exact jev_callb (nx := 44) (rest := [.int x1, .ref ((jpl false) + 2)]) rfl
    · refine (jev_blk 2 (pc' := 36) (L' := ([some (.ref 1), some (.int x1), d2], [])) (S' := [.int 3, .ref 1]) (h' := (jX f g n2 p pa s sa sw (.ref (jpl false)) t, z)) rfl).trans ?_
      exact jev_callb (nx := 37) (rest := []) rfl
  · refine (jev_blk 2 (pc' := if u0 = (-1) then 38 else 34) (L' := ([some (.ref 1), some (.int x1), d2], [])) (S' := []) (h' := (jX f g n2 p pa s sa sw (.ref (jpl true)) t, z)) rfl).trans (jev_ite.trans (jite_congr (fun _ => ?_) (fun _ => ?_)))
    · refine (jev_blk 5 (pc' := 43) (L' := ([some (.ref 1), some (.int x1), d2], [])) (S' := [.ref 1, .int x1, .ref ((jpl true) + 2)]) (h' := (jX f g n2 p pa s sa sw (.ref (jpl true)) t, z)) rfl).trans ?_
      exact jev_callb (nx := 44) (rest := [.int x1, .ref ((jpl true) + 2)]) rfl
    · refine (jev_blk 2 (pc' := 36) (L' := ([some (.ref 1), some (.int x1), d2], [])) (S' := [.int 3, .ref 1]) (h' := (jX f g n2 p pa s sa sw (.ref (jpl true)) t, z)) rfl).trans ?_
      exact jev_callb (nx := 37) (rest := []) rfl
set_option maxRecDepth 20000 in
theorem E_r_readScare_25 {D : Nat} {w : Bool} {d1 : Option Value} {d2 : Option Value} {u0 : Int32} {f : Nat → Int32} {g : Nat → Nat → Int32} {n2 : Nat → Nat → Int64} {p : Nat → Nat → Int32} {pa : Nat → Nat → Nat → Int32} {s : Nat → Nat → Int32} {sa : Nat → Nat → Nat → Int32} {sw : Bool} {t : List jE} {z : Nat × Nat × Nat × (Nat → Int32)}  : jev D 57 25 ([some (.ref 1), d1, d2], []) [.int u0] (jX f g n2 p pa s sa sw (.ref (jpl w)) t, z) = if u0 = 0 ∨ u0 = 1 then some (.inl (some (.int u0)), (jX f g n2 p pa s sa sw (.ref (jpl w)) t, z)) else none := by
  cases w
  · exact jev_fing rfl
  · exact jev_fing rfl
set_option maxRecDepth 20000 in
theorem E_r_readScare_44 {D : Nat} {w : Bool} {x1 : Int32} {d2 : Option Value} {u0 : Int32} {u1 : Int32} {f : Nat → Int32} {g : Nat → Nat → Int32} {n2 : Nat → Nat → Int64} {p : Nat → Nat → Int32} {pa : Nat → Nat → Nat → Int32} {s : Nat → Nat → Int32} {sa : Nat → Nat → Nat → Int32} {sw : Bool} {t : List jE} {z : Nat × Nat × Nat × (Nat → Int32)}  : jev D 57 44 ([some (.ref 1), some (.int x1), d2], []) [.int u0, .int u1, .ref ((jpl w) + 2)] (jX f g n2 p pa s sa sw (.ref (jpl w)) t, z) = if jout u1 6 then none else (jbO (K_r_isNumber D w 0 ((p (jq w) 1) - 1) f g n2 p (jup pa (jq w) (jup (pa (jq w)) 1 ((jup (pa (jq w) 1) (u1.toNatClampNeg) u0)))) s sa sw t z) (jk D 57 53 ([some (.ref 1), some (.int x1), d2], []) [])) := by
  cases w
  · refine (jev_grd (q := jout u1 6) (pc' := 45) (L' := ([some (.ref 1), some (.int x1), d2], [])) (S' := []) (h' := (jX f g n2 p (jup pa (jq false) (jup (pa (jq false)) 1 ((jup (pa (jq false) 1) (u1.toNatClampNeg) u0)))) s sa sw (.ref (jpl false)) t, z)) rfl).trans (jite_congr (fun _ => rfl) (fun _ => ?_))
    refine (jev_blk 7 (pc' := 52) (L' := ([some (.ref 1), some (.int x1), d2], [])) (S' := [.int ((p (jq false) 1) - 1), .int 0, .ref 1]) (h' := (jX f g n2 p (jup pa (jq false) (jup (pa (jq false)) 1 ((jup (pa (jq false) 1) (u1.toNatClampNeg) u0)))) s sa sw (.ref (jpl false)) t, z)) rfl).trans ?_
    exact jev_callb (nx := 53) (rest := []) rfl
  · refine (jev_grd (q := jout u1 6) (pc' := 45) (L' := ([some (.ref 1), some (.int x1), d2], [])) (S' := []) (h' := (jX f g n2 p (jup pa (jq true) (jup (pa (jq true)) 1 ((jup (pa (jq true) 1) (u1.toNatClampNeg) u0)))) s sa sw (.ref (jpl true)) t, z)) rfl).trans (jite_congr (fun _ => rfl) (fun _ => ?_))
    refine (jev_blk 7 (pc' := 52) (L' := ([some (.ref 1), some (.int x1), d2], [])) (S' := [.int ((p (jq true) 1) - 1), .int 0, .ref 1]) (h' := (jX f g n2 p (jup pa (jq true) (jup (pa (jq true)) 1 ((jup (pa (jq true) 1) (u1.toNatClampNeg) u0)))) s sa sw (.ref (jpl true)) t, z)) rfl).trans ?_
    exact jev_callb (nx := 53) (rest := []) rfl
set_option maxRecDepth 20000 in
theorem E_r_readScare_37 {D : Nat} {w : Bool} {d1 : Option Value} {d2 : Option Value} {u0 : Int32} {f : Nat → Int32} {g : Nat → Nat → Int32} {n2 : Nat → Nat → Int64} {p : Nat → Nat → Int32} {pa : Nat → Nat → Nat → Int32} {s : Nat → Nat → Int32} {sa : Nat → Nat → Nat → Int32} {sw : Bool} {t : List jE} {z : Nat × Nat × Nat × (Nat → Int32)}  : jev D 57 37 ([some (.ref 1), d1, d2], []) [.int u0] (jX f g n2 p pa s sa sw (.ref (jpl w)) t, z) = if u0 = 0 ∨ u0 = 1 then some (.inl (some (.int u0)), (jX f g n2 p pa s sa sw (.ref (jpl w)) t, z)) else none := by
  cases w
  · exact jev_fing rfl
  · exact jev_fing rfl
set_option maxRecDepth 20000 in
theorem E_r_readScare_53 {D : Nat} {w : Bool} {x1 : Int32} {d2 : Option Value} {u0 : Int32} {f : Nat → Int32} {g : Nat → Nat → Int32} {n2 : Nat → Nat → Int64} {p : Nat → Nat → Int32} {pa : Nat → Nat → Nat → Int32} {s : Nat → Nat → Int32} {sa : Nat → Nat → Nat → Int32} {sw : Bool} {t : List jE} {z : Nat × Nat × Nat × (Nat → Int32)}  : jev D 57 53 ([some (.ref 1), some (.int x1), d2], []) [.int u0] (jX f g n2 p pa s sa sw (.ref (jpl w)) t, z) = if u0 = 0 then (some (.inl (some (.int 0)), (jX f g n2 p pa s sa sw (.ref (jpl w)) t, z))) else (jbO (K_r_take D w f g n2 p pa s sa sw t z) (jk D 57 58 ([some (.ref 1), some (.int x1), d2], []) [])) := by
  cases w
  · refine (jev_blk 1 (pc' := if u0 = 0 then 54 else 56) (L' := ([some (.ref 1), some (.int x1), d2], [])) (S' := []) (h' := (jX f g n2 p pa s sa sw (.ref (jpl false)) t, z)) rfl).trans (jev_ite.trans (jite_congr (fun _ => ?_) (fun _ => ?_)))
    · refine (jev_blk 1 (pc' := 55) (L' := ([some (.ref 1), some (.int x1), d2], [])) (S' := [.int 0]) (h' := (jX f g n2 p pa s sa sw (.ref (jpl false)) t, z)) rfl).trans ?_
      exact jev_fin rfl
    · refine (jev_blk 1 (pc' := 57) (L' := ([some (.ref 1), some (.int x1), d2], [])) (S' := [.ref 1]) (h' := (jX f g n2 p pa s sa sw (.ref (jpl false)) t, z)) rfl).trans ?_
      exact jev_callb (nx := 58) (rest := []) rfl
  · refine (jev_blk 1 (pc' := if u0 = 0 then 54 else 56) (L' := ([some (.ref 1), some (.int x1), d2], [])) (S' := []) (h' := (jX f g n2 p pa s sa sw (.ref (jpl true)) t, z)) rfl).trans (jev_ite.trans (jite_congr (fun _ => ?_) (fun _ => ?_)))
    · refine (jev_blk 1 (pc' := 55) (L' := ([some (.ref 1), some (.int x1), d2], [])) (S' := [.int 0]) (h' := (jX f g n2 p pa s sa sw (.ref (jpl true)) t, z)) rfl).trans ?_
      exact jev_fin rfl
    · refine (jev_blk 1 (pc' := 57) (L' := ([some (.ref 1), some (.int x1), d2], [])) (S' := [.ref 1]) (h' := (jX f g n2 p pa s sa sw (.ref (jpl true)) t, z)) rfl).trans ?_
      exact jev_callb (nx := 58) (rest := []) rfl
set_option maxRecDepth 20000 in
theorem E_r_readScare_58 {D : Nat} {w : Bool} {x1 : Int32} {d2 : Option Value} {u0 : Int32} {f : Nat → Int32} {g : Nat → Nat → Int32} {n2 : Nat → Nat → Int64} {p : Nat → Nat → Int32} {pa : Nat → Nat → Nat → Int32} {s : Nat → Nat → Int32} {sa : Nat → Nat → Nat → Int32} {sw : Bool} {t : List jE} {z : Nat × Nat × Nat × (Nat → Int32)}  : jev D 57 58 ([some (.ref 1), some (.int x1), d2], []) [.int u0] (jX f g n2 p pa s sa sw (.ref (jpl w)) t, z) = jbO (K_r_isNumber D w 0 ((p (jq w) 2) - 1) f g n2 p pa s sa sw t z) (jk D 57 67 ([some (.ref 1), some (.int x1), some (.int u0)], []) []) := by
  cases w
  · refine (jev_blk 8 (pc' := 66) (L' := ([some (.ref 1), some (.int x1), some (.int u0)], [])) (S' := [.int ((p (jq false) 2) - 1), .int 0, .ref 1]) (h' := (jX f g n2 p pa s sa sw (.ref (jpl false)) t, z)) rfl).trans ?_
    exact jev_callb (nx := 67) (rest := []) rfl
  · refine (jev_blk 8 (pc' := 66) (L' := ([some (.ref 1), some (.int x1), some (.int u0)], [])) (S' := [.int ((p (jq true) 2) - 1), .int 0, .ref 1]) (h' := (jX f g n2 p pa s sa sw (.ref (jpl true)) t, z)) rfl).trans ?_
    exact jev_callb (nx := 67) (rest := []) rfl
set_option maxRecDepth 20000 in
theorem E_r_readScare_67 {D : Nat} {w : Bool} {x1 : Int32} {x2 : Int32} {u0 : Int32} {f : Nat → Int32} {g : Nat → Nat → Int32} {n2 : Nat → Nat → Int64} {p : Nat → Nat → Int32} {pa : Nat → Nat → Nat → Int32} {s : Nat → Nat → Int32} {sa : Nat → Nat → Nat → Int32} {sw : Bool} {t : List jE} {z : Nat × Nat × Nat × (Nat → Int32)}  : jev D 57 67 ([some (.ref 1), some (.int x1), some (.int x2)], []) [.int u0] (jX f g n2 p pa s sa sw (.ref (jpl w)) t, z) = if u0 = 0 then (some (.inl (some (.int 0)), (jX f g n2 p pa s sa sw (.ref (jpl w)) t, z))) else (jbO (K_r_take D w f g n2 p pa s sa sw t z) (jk D 57 76 ([some (.ref 1), some (.int x1), some (.int x2)], []) [.int x1, .ref ((jpl w) + 3)])) := by
  cases w
  · refine (jev_blk 1 (pc' := if u0 = 0 then 68 else 70) (L' := ([some (.ref 1), some (.int x1), some (.int x2)], [])) (S' := []) (h' := (jX f g n2 p pa s sa sw (.ref (jpl false)) t, z)) rfl).trans (jev_ite.trans (jite_congr (fun _ => ?_) (fun _ => ?_)))
    · refine (jev_blk 1 (pc' := 69) (L' := ([some (.ref 1), some (.int x1), some (.int x2)], [])) (S' := [.int 0]) (h' := (jX f g n2 p pa s sa sw (.ref (jpl false)) t, z)) rfl).trans ?_
      exact jev_fin rfl
    · refine (jev_blk 5 (pc' := 75) (L' := ([some (.ref 1), some (.int x1), some (.int x2)], [])) (S' := [.ref 1, .int x1, .ref ((jpl false) + 3)]) (h' := (jX f g n2 p pa s sa sw (.ref (jpl false)) t, z)) rfl).trans ?_
      exact jev_callb (nx := 76) (rest := [.int x1, .ref ((jpl false) + 3)]) rfl
  · refine (jev_blk 1 (pc' := if u0 = 0 then 68 else 70) (L' := ([some (.ref 1), some (.int x1), some (.int x2)], [])) (S' := []) (h' := (jX f g n2 p pa s sa sw (.ref (jpl true)) t, z)) rfl).trans (jev_ite.trans (jite_congr (fun _ => ?_) (fun _ => ?_)))
    · refine (jev_blk 1 (pc' := 69) (L' := ([some (.ref 1), some (.int x1), some (.int x2)], [])) (S' := [.int 0]) (h' := (jX f g n2 p pa s sa sw (.ref (jpl true)) t, z)) rfl).trans ?_
      exact jev_fin rfl
    · refine (jev_blk 5 (pc' := 75) (L' := ([some (.ref 1), some (.int x1), some (.int x2)], [])) (S' := [.ref 1, .int x1, .ref ((jpl true) + 3)]) (h' := (jX f g n2 p pa s sa sw (.ref (jpl true)) t, z)) rfl).trans ?_
      exact jev_callb (nx := 76) (rest := [.int x1, .ref ((jpl true) + 3)]) rfl
set_option maxRecDepth 20000 in
theorem E_r_readScare_76 {D : Nat} {w : Bool} {x1 : Int32} {x2 : Int32} {u0 : Int32} {u1 : Int32} {f : Nat → Int32} {g : Nat → Nat → Int32} {n2 : Nat → Nat → Int64} {p : Nat → Nat → Int32} {pa : Nat → Nat → Nat → Int32} {s : Nat → Nat → Int32} {sa : Nat → Nat → Nat → Int32} {sw : Bool} {t : List jE} {z : Nat × Nat × Nat × (Nat → Int32)}  : jev D 57 76 ([some (.ref 1), some (.int x1), some (.int x2)], []) [.int u0, .int u1, .ref ((jpl w) + 3)] (jX f g n2 p pa s sa sw (.ref (jpl w)) t, z) = if jout u1 6 then none else (jev D 57 88 ([some (.ref 1), some (.int x1), some (.int x2)], []) [.int 0, .int x1, .ref ((jpl w) + 7)] (jX f g n2 p (jup pa (jq w) (jup (pa (jq w)) 2 ((jup (pa (jq w) 2) (u1.toNatClampNeg) ((u0 * (p (jq w) 1)) + x2))))) s sa sw (.ref (jpl w)) t, z)) := by
  cases w
  · refine (jev_blk 6 (pc' := 82) (L' := ([some (.ref 1), some (.int x1), some (.int x2)], [])) (S' := [.int ((u0 * (p (jq false) 1)) + x2), .int u1, .ref ((jpl false) + 3)]) (h' := (jX f g n2 p pa s sa sw (.ref (jpl false)) t, z)) rfl).trans ?_
    refine (jev_grd (q := jout u1 6) (pc' := 83) (L' := ([some (.ref 1), some (.int x1), some (.int x2)], [])) (S' := []) (h' := (jX f g n2 p (jup pa (jq false) (jup (pa (jq false)) 2 ((jup (pa (jq false) 2) (u1.toNatClampNeg) ((u0 * (p (jq false) 1)) + x2))))) s sa sw (.ref (jpl false)) t, z)) rfl).trans (jite_congr (fun _ => rfl) (fun _ => ?_))
    exact jev_blk 5 rfl
  · refine (jev_blk 6 (pc' := 82) (L' := ([some (.ref 1), some (.int x1), some (.int x2)], [])) (S' := [.int ((u0 * (p (jq true) 1)) + x2), .int u1, .ref ((jpl true) + 3)]) (h' := (jX f g n2 p pa s sa sw (.ref (jpl true)) t, z)) rfl).trans ?_
    refine (jev_grd (q := jout u1 6) (pc' := 83) (L' := ([some (.ref 1), some (.int x1), some (.int x2)], [])) (S' := []) (h' := (jX f g n2 p (jup pa (jq true) (jup (pa (jq true)) 2 ((jup (pa (jq true) 2) (u1.toNatClampNeg) ((u0 * (p (jq true) 1)) + x2))))) s sa sw (.ref (jpl true)) t, z)) rfl).trans (jite_congr (fun _ => rfl) (fun _ => ?_))
    exact jev_blk 5 rfl
set_option maxRecDepth 20000 in
theorem E_r_readScare_88 {D : Nat} {w : Bool} {x1 : Int32} {d2 : Option Value} {u0 : Int32} {u1 : Int32} {f : Nat → Int32} {g : Nat → Nat → Int32} {n2 : Nat → Nat → Int64} {p : Nat → Nat → Int32} {pa : Nat → Nat → Nat → Int32} {s : Nat → Nat → Int32} {sa : Nat → Nat → Nat → Int32} {sw : Bool} {t : List jE} {z : Nat × Nat × Nat × (Nat → Int32)}  : jev D 57 88 ([some (.ref 1), some (.int x1), d2], []) [.int u0, .int u1, .ref ((jpl w) + 7)] (jX f g n2 p pa s sa sw (.ref (jpl w)) t, z) = if jout u1 6 then none else (jbO (K_r_readTraits D w x1 f g n2 (jup p (jq w) (jup (p (jq w)) 3 (((p (jq w) 3) + 1)))) (jup pa (jq w) (jup (pa (jq w)) 6 ((jup (pa (jq w) 6) (u1.toNatClampNeg) u0)))) s sa sw t z) (jk D 57 99 ([some (.ref 1), some (.int x1), d2], []) [])) := by
  cases w
  · refine (jev_grd (q := jout u1 6) (pc' := 89) (L' := ([some (.ref 1), some (.int x1), d2], [])) (S' := []) (h' := (jX f g n2 p (jup pa (jq false) (jup (pa (jq false)) 6 ((jup (pa (jq false) 6) (u1.toNatClampNeg) u0)))) s sa sw (.ref (jpl false)) t, z)) rfl).trans (jite_congr (fun _ => rfl) (fun _ => ?_))
    refine (jev_blk 9 (pc' := 98) (L' := ([some (.ref 1), some (.int x1), d2], [])) (S' := [.int x1, .ref 1]) (h' := (jX f g n2 (jup p (jq false) (jup (p (jq false)) 3 (((p (jq false) 3) + 1)))) (jup pa (jq false) (jup (pa (jq false)) 6 ((jup (pa (jq false) 6) (u1.toNatClampNeg) u0)))) s sa sw (.ref (jpl false)) t, z)) rfl).trans ?_
    exact jev_callb (nx := 99) (rest := []) rfl
  · refine (jev_grd (q := jout u1 6) (pc' := 89) (L' := ([some (.ref 1), some (.int x1), d2], [])) (S' := []) (h' := (jX f g n2 p (jup pa (jq true) (jup (pa (jq true)) 6 ((jup (pa (jq true) 6) (u1.toNatClampNeg) u0)))) s sa sw (.ref (jpl true)) t, z)) rfl).trans (jite_congr (fun _ => rfl) (fun _ => ?_))
    refine (jev_blk 9 (pc' := 98) (L' := ([some (.ref 1), some (.int x1), d2], [])) (S' := [.int x1, .ref 1]) (h' := (jX f g n2 (jup p (jq true) (jup (p (jq true)) 3 (((p (jq true) 3) + 1)))) (jup pa (jq true) (jup (pa (jq true)) 6 ((jup (pa (jq true) 6) (u1.toNatClampNeg) u0)))) s sa sw (.ref (jpl true)) t, z)) rfl).trans ?_
    exact jev_callb (nx := 99) (rest := []) rfl
set_option maxRecDepth 20000 in
theorem E_r_readScare_99 {D : Nat} {w : Bool} {d1 : Option Value} {d2 : Option Value} {u0 : Int32} {f : Nat → Int32} {g : Nat → Nat → Int32} {n2 : Nat → Nat → Int64} {p : Nat → Nat → Int32} {pa : Nat → Nat → Nat → Int32} {s : Nat → Nat → Int32} {sa : Nat → Nat → Nat → Int32} {sw : Bool} {t : List jE} {z : Nat × Nat × Nat × (Nat → Int32)}  : jev D 57 99 ([some (.ref 1), d1, d2], []) [.int u0] (jX f g n2 p pa s sa sw (.ref (jpl w)) t, z) = if u0 = 0 ∨ u0 = 1 then some (.inl (some (.int u0)), (jX f g n2 p pa s sa sw (.ref (jpl w)) t, z)) else none := by
  cases w
  · exact jev_fing rfl
  · exact jev_fing rfl
set_option maxRecDepth 20000 in
theorem E_r_readTraits {D : Nat} {w : Bool} {a0 : Int32} {f : Nat → Int32} {g : Nat → Nat → Int32} {n2 : Nat → Nat → Int64} {p : Nat → Nat → Int32} {pa : Nat → Nat → Nat → Int32} {s : Nat → Nat → Int32} {sa : Nat → Nat → Nat → Int32} {sw : Bool} {t : List jE} {z : Nat × Nat × Nat × (Nat → Int32)}  : K_r_readTraits D w a0 f g n2 p pa s sa sw t z = jbO (K_r_isNumber D w 0 9 f g n2 p pa s sa sw t z) (jk D 58 4 ([some (.ref 1), some (.int a0)], []) []) := by
  cases w
  · refine (jev_blk 3 (pc' := 3) (L' := ([some (.ref 1), some (.int a0)], [])) (S' := [.int 9, .int 0, .ref 1]) (h' := (jX f g n2 p pa s sa sw (.ref (jpl false)) t, z)) rfl).trans ?_
    exact jev_callb (nx := 4) (rest := []) rfl
  · refine (jev_blk 3 (pc' := 3) (L' := ([some (.ref 1), some (.int a0)], [])) (S' := [.int 9, .int 0, .ref 1]) (h' := (jX f g n2 p pa s sa sw (.ref (jpl true)) t, z)) rfl).trans ?_
    exact jev_callb (nx := 4) (rest := []) rfl
set_option maxRecDepth 20000 in
theorem E_r_readTraits_4 {D : Nat} {w : Bool} {x1 : Int32} {u0 : Int32} {f : Nat → Int32} {g : Nat → Nat → Int32} {n2 : Nat → Nat → Int64} {p : Nat → Nat → Int32} {pa : Nat → Nat → Nat → Int32} {s : Nat → Nat → Int32} {sa : Nat → Nat → Nat → Int32} {sw : Bool} {t : List jE} {z : Nat × Nat × Nat × (Nat → Int32)}  : jev D 58 4 ([some (.ref 1), some (.int x1)], []) [.int u0] (jX f g n2 p pa s sa sw (.ref (jpl w)) t, z) = if u0 = 0 then (some (.inl (some (.int 0)), (jX f g n2 p pa s sa sw (.ref (jpl w)) t, z))) else (jbO (K_r_take D w f g n2 p pa s sa sw t z) (jk D 58 13 ([some (.ref 1), some (.int x1)], []) [.int x1, .ref ((jpl w) + 4)])) := by
  cases w
  · refine (jev_blk 1 (pc' := if u0 = 0 then 5 else 7) (L' := ([some (.ref 1), some (.int x1)], [])) (S' := []) (h' := (jX f g n2 p pa s sa sw (.ref (jpl false)) t, z)) rfl).trans (jev_ite.trans (jite_congr (fun _ => ?_) (fun _ => ?_)))
    · refine (jev_blk 1 (pc' := 6) (L' := ([some (.ref 1), some (.int x1)], [])) (S' := [.int 0]) (h' := (jX f g n2 p pa s sa sw (.ref (jpl false)) t, z)) rfl).trans ?_
      exact jev_fin rfl
    · refine (jev_blk 5 (pc' := 12) (L' := ([some (.ref 1), some (.int x1)], [])) (S' := [.ref 1, .int x1, .ref ((jpl false) + 4)]) (h' := (jX f g n2 p pa s sa sw (.ref (jpl false)) t, z)) rfl).trans ?_
      exact jev_callb (nx := 13) (rest := [.int x1, .ref ((jpl false) + 4)]) rfl
  · refine (jev_blk 1 (pc' := if u0 = 0 then 5 else 7) (L' := ([some (.ref 1), some (.int x1)], [])) (S' := []) (h' := (jX f g n2 p pa s sa sw (.ref (jpl true)) t, z)) rfl).trans (jev_ite.trans (jite_congr (fun _ => ?_) (fun _ => ?_)))
    · refine (jev_blk 1 (pc' := 6) (L' := ([some (.ref 1), some (.int x1)], [])) (S' := [.int 0]) (h' := (jX f g n2 p pa s sa sw (.ref (jpl true)) t, z)) rfl).trans ?_
      exact jev_fin rfl
    · refine (jev_blk 5 (pc' := 12) (L' := ([some (.ref 1), some (.int x1)], [])) (S' := [.ref 1, .int x1, .ref ((jpl true) + 4)]) (h' := (jX f g n2 p pa s sa sw (.ref (jpl true)) t, z)) rfl).trans ?_
      exact jev_callb (nx := 13) (rest := [.int x1, .ref ((jpl true) + 4)]) rfl
set_option maxRecDepth 20000 in
theorem E_r_readTraits_13 {D : Nat} {w : Bool} {x1 : Int32} {u0 : Int32} {u1 : Int32} {f : Nat → Int32} {g : Nat → Nat → Int32} {n2 : Nat → Nat → Int64} {p : Nat → Nat → Int32} {pa : Nat → Nat → Nat → Int32} {s : Nat → Nat → Int32} {sa : Nat → Nat → Nat → Int32} {sw : Bool} {t : List jE} {z : Nat × Nat × Nat × (Nat → Int32)}  : jev D 58 13 ([some (.ref 1), some (.int x1)], []) [.int u0, .int u1, .ref ((jpl w) + 4)] (jX f g n2 p pa s sa sw (.ref (jpl w)) t, z) = if jout u1 6 then none else (jbO (K_r_isNumber D w 0 9 f g n2 p (jup pa (jq w) (jup (pa (jq w)) 3 ((jup (pa (jq w) 3) (u1.toNatClampNeg) u0)))) s sa sw t z) (jk D 58 18 ([some (.ref 1), some (.int x1)], []) [])) := by
  cases w
  · refine (jev_grd (q := jout u1 6) (pc' := 14) (L' := ([some (.ref 1), some (.int x1)], [])) (S' := []) (h' := (jX f g n2 p (jup pa (jq false) (jup (pa (jq false)) 3 ((jup (pa (jq false) 3) (u1.toNatClampNeg) u0)))) s sa sw (.ref (jpl false)) t, z)) rfl).trans (jite_congr (fun _ => rfl) (fun _ => ?_))
    refine (jev_blk 3 (pc' := 17) (L' := ([some (.ref 1), some (.int x1)], [])) (S' := [.int 9, .int 0, .ref 1]) (h' := (jX f g n2 p (jup pa (jq false) (jup (pa (jq false)) 3 ((jup (pa (jq false) 3) (u1.toNatClampNeg) u0)))) s sa sw (.ref (jpl false)) t, z)) rfl).trans ?_
    exact jev_callb (nx := 18) (rest := []) rfl
  · refine (jev_grd (q := jout u1 6) (pc' := 14) (L' := ([some (.ref 1), some (.int x1)], [])) (S' := []) (h' := (jX f g n2 p (jup pa (jq true) (jup (pa (jq true)) 3 ((jup (pa (jq true) 3) (u1.toNatClampNeg) u0)))) s sa sw (.ref (jpl true)) t, z)) rfl).trans (jite_congr (fun _ => rfl) (fun _ => ?_))
    refine (jev_blk 3 (pc' := 17) (L' := ([some (.ref 1), some (.int x1)], [])) (S' := [.int 9, .int 0, .ref 1]) (h' := (jX f g n2 p (jup pa (jq true) (jup (pa (jq true)) 3 ((jup (pa (jq true) 3) (u1.toNatClampNeg) u0)))) s sa sw (.ref (jpl true)) t, z)) rfl).trans ?_
    exact jev_callb (nx := 18) (rest := []) rfl
set_option maxRecDepth 20000 in
theorem E_r_readTraits_18 {D : Nat} {w : Bool} {x1 : Int32} {u0 : Int32} {f : Nat → Int32} {g : Nat → Nat → Int32} {n2 : Nat → Nat → Int64} {p : Nat → Nat → Int32} {pa : Nat → Nat → Nat → Int32} {s : Nat → Nat → Int32} {sa : Nat → Nat → Nat → Int32} {sw : Bool} {t : List jE} {z : Nat × Nat × Nat × (Nat → Int32)}  : jev D 58 18 ([some (.ref 1), some (.int x1)], []) [.int u0] (jX f g n2 p pa s sa sw (.ref (jpl w)) t, z) = if u0 = 0 then (some (.inl (some (.int 0)), (jX f g n2 p pa s sa sw (.ref (jpl w)) t, z))) else (jbO (K_r_take D w f g n2 p pa s sa sw t z) (jk D 58 27 ([some (.ref 1), some (.int x1)], []) [.int x1, .ref ((jpl w) + 5)])) := by
  cases w
  · refine (jev_blk 1 (pc' := if u0 = 0 then 19 else 21) (L' := ([some (.ref 1), some (.int x1)], [])) (S' := []) (h' := (jX f g n2 p pa s sa sw (.ref (jpl false)) t, z)) rfl).trans (jev_ite.trans (jite_congr (fun _ => ?_) (fun _ => ?_)))
    · refine (jev_blk 1 (pc' := 20) (L' := ([some (.ref 1), some (.int x1)], [])) (S' := [.int 0]) (h' := (jX f g n2 p pa s sa sw (.ref (jpl false)) t, z)) rfl).trans ?_
      exact jev_fin rfl
    · refine (jev_blk 5 (pc' := 26) (L' := ([some (.ref 1), some (.int x1)], [])) (S' := [.ref 1, .int x1, .ref ((jpl false) + 5)]) (h' := (jX f g n2 p pa s sa sw (.ref (jpl false)) t, z)) rfl).trans ?_
      exact jev_callb (nx := 27) (rest := [.int x1, .ref ((jpl false) + 5)]) rfl
  · refine (jev_blk 1 (pc' := if u0 = 0 then 19 else 21) (L' := ([some (.ref 1), some (.int x1)], [])) (S' := []) (h' := (jX f g n2 p pa s sa sw (.ref (jpl true)) t, z)) rfl).trans (jev_ite.trans (jite_congr (fun _ => ?_) (fun _ => ?_)))
    · refine (jev_blk 1 (pc' := 20) (L' := ([some (.ref 1), some (.int x1)], [])) (S' := [.int 0]) (h' := (jX f g n2 p pa s sa sw (.ref (jpl true)) t, z)) rfl).trans ?_
      exact jev_fin rfl
    · refine (jev_blk 5 (pc' := 26) (L' := ([some (.ref 1), some (.int x1)], [])) (S' := [.ref 1, .int x1, .ref ((jpl true) + 5)]) (h' := (jX f g n2 p pa s sa sw (.ref (jpl true)) t, z)) rfl).trans ?_
      exact jev_callb (nx := 27) (rest := [.int x1, .ref ((jpl true) + 5)]) rfl
set_option maxRecDepth 20000 in
theorem E_r_readTraits_27 {D : Nat} {w : Bool} {x1 : Int32} {u0 : Int32} {u1 : Int32} {f : Nat → Int32} {g : Nat → Nat → Int32} {n2 : Nat → Nat → Int64} {p : Nat → Nat → Int32} {pa : Nat → Nat → Nat → Int32} {s : Nat → Nat → Int32} {sa : Nat → Nat → Nat → Int32} {sw : Bool} {t : List jE} {z : Nat × Nat × Nat × (Nat → Int32)}  : jev D 58 27 ([some (.ref 1), some (.int x1)], []) [.int u0, .int u1, .ref ((jpl w) + 5)] (jX f g n2 p pa s sa sw (.ref (jpl w)) t, z) = if jout u1 6 then none else (jbO (K_r_isNumber D w 0 9 f g n2 p (jup pa (jq w) (jup (pa (jq w)) 4 ((jup (pa (jq w) 4) (u1.toNatClampNeg) u0)))) s sa sw t z) (jk D 58 32 ([some (.ref 1), some (.int x1)], []) [])) := by
  cases w
  · refine (jev_grd (q := jout u1 6) (pc' := 28) (L' := ([some (.ref 1), some (.int x1)], [])) (S' := []) (h' := (jX f g n2 p (jup pa (jq false) (jup (pa (jq false)) 4 ((jup (pa (jq false) 4) (u1.toNatClampNeg) u0)))) s sa sw (.ref (jpl false)) t, z)) rfl).trans (jite_congr (fun _ => rfl) (fun _ => ?_))
    refine (jev_blk 3 (pc' := 31) (L' := ([some (.ref 1), some (.int x1)], [])) (S' := [.int 9, .int 0, .ref 1]) (h' := (jX f g n2 p (jup pa (jq false) (jup (pa (jq false)) 4 ((jup (pa (jq false) 4) (u1.toNatClampNeg) u0)))) s sa sw (.ref (jpl false)) t, z)) rfl).trans ?_
    exact jev_callb (nx := 32) (rest := []) rfl
  · refine (jev_grd (q := jout u1 6) (pc' := 28) (L' := ([some (.ref 1), some (.int x1)], [])) (S' := []) (h' := (jX f g n2 p (jup pa (jq true) (jup (pa (jq true)) 4 ((jup (pa (jq true) 4) (u1.toNatClampNeg) u0)))) s sa sw (.ref (jpl true)) t, z)) rfl).trans (jite_congr (fun _ => rfl) (fun _ => ?_))
    refine (jev_blk 3 (pc' := 31) (L' := ([some (.ref 1), some (.int x1)], [])) (S' := [.int 9, .int 0, .ref 1]) (h' := (jX f g n2 p (jup pa (jq true) (jup (pa (jq true)) 4 ((jup (pa (jq true) 4) (u1.toNatClampNeg) u0)))) s sa sw (.ref (jpl true)) t, z)) rfl).trans ?_
    exact jev_callb (nx := 32) (rest := []) rfl
set_option maxRecDepth 20000 in
theorem E_r_readTraits_32 {D : Nat} {w : Bool} {x1 : Int32} {u0 : Int32} {f : Nat → Int32} {g : Nat → Nat → Int32} {n2 : Nat → Nat → Int64} {p : Nat → Nat → Int32} {pa : Nat → Nat → Nat → Int32} {s : Nat → Nat → Int32} {sa : Nat → Nat → Nat → Int32} {sw : Bool} {t : List jE} {z : Nat × Nat × Nat × (Nat → Int32)}  : jev D 58 32 ([some (.ref 1), some (.int x1)], []) [.int u0] (jX f g n2 p pa s sa sw (.ref (jpl w)) t, z) = if u0 = 0 then (some (.inl (some (.int 0)), (jX f g n2 p pa s sa sw (.ref (jpl w)) t, z))) else (jbO (K_r_take D w f g n2 p pa s sa sw t z) (jk D 58 41 ([some (.ref 1), some (.int x1)], []) [.int x1, .ref ((jpl w) + 6)])) := by
  cases w
  · refine (jev_blk 1 (pc' := if u0 = 0 then 33 else 35) (L' := ([some (.ref 1), some (.int x1)], [])) (S' := []) (h' := (jX f g n2 p pa s sa sw (.ref (jpl false)) t, z)) rfl).trans (jev_ite.trans (jite_congr (fun _ => ?_) (fun _ => ?_)))
    · refine (jev_blk 1 (pc' := 34) (L' := ([some (.ref 1), some (.int x1)], [])) (S' := [.int 0]) (h' := (jX f g n2 p pa s sa sw (.ref (jpl false)) t, z)) rfl).trans ?_
      exact jev_fin rfl
    · refine (jev_blk 5 (pc' := 40) (L' := ([some (.ref 1), some (.int x1)], [])) (S' := [.ref 1, .int x1, .ref ((jpl false) + 6)]) (h' := (jX f g n2 p pa s sa sw (.ref (jpl false)) t, z)) rfl).trans ?_
      exact jev_callb (nx := 41) (rest := [.int x1, .ref ((jpl false) + 6)]) rfl
  · refine (jev_blk 1 (pc' := if u0 = 0 then 33 else 35) (L' := ([some (.ref 1), some (.int x1)], [])) (S' := []) (h' := (jX f g n2 p pa s sa sw (.ref (jpl true)) t, z)) rfl).trans (jev_ite.trans (jite_congr (fun _ => ?_) (fun _ => ?_)))
    · refine (jev_blk 1 (pc' := 34) (L' := ([some (.ref 1), some (.int x1)], [])) (S' := [.int 0]) (h' := (jX f g n2 p pa s sa sw (.ref (jpl true)) t, z)) rfl).trans ?_
      exact jev_fin rfl
    · refine (jev_blk 5 (pc' := 40) (L' := ([some (.ref 1), some (.int x1)], [])) (S' := [.ref 1, .int x1, .ref ((jpl true) + 6)]) (h' := (jX f g n2 p pa s sa sw (.ref (jpl true)) t, z)) rfl).trans ?_
      exact jev_callb (nx := 41) (rest := [.int x1, .ref ((jpl true) + 6)]) rfl
set_option maxRecDepth 20000 in
theorem E_r_readTraits_41 {D : Nat} {w : Bool} {d1 : Option Value} {u0 : Int32} {u1 : Int32} {f : Nat → Int32} {g : Nat → Nat → Int32} {n2 : Nat → Nat → Int64} {p : Nat → Nat → Int32} {pa : Nat → Nat → Nat → Int32} {s : Nat → Nat → Int32} {sa : Nat → Nat → Nat → Int32} {sw : Bool} {t : List jE} {z : Nat × Nat × Nat × (Nat → Int32)}  : jev D 58 41 ([some (.ref 1), d1], []) [.int u0, .int u1, .ref ((jpl w) + 6)] (jX f g n2 p pa s sa sw (.ref (jpl w)) t, z) = if jout u1 6 then none else (some (.inl (some (.int 1)), (jX f g n2 p (jup pa (jq w) (jup (pa (jq w)) 5 ((jup (pa (jq w) 5) (u1.toNatClampNeg) u0)))) s sa sw (.ref (jpl w)) t, z))) := by
  cases w
  · refine (jev_grd (q := jout u1 6) (pc' := 42) (L' := ([some (.ref 1), d1], [])) (S' := []) (h' := (jX f g n2 p (jup pa (jq false) (jup (pa (jq false)) 5 ((jup (pa (jq false) 5) (u1.toNatClampNeg) u0)))) s sa sw (.ref (jpl false)) t, z)) rfl).trans (jite_congr (fun _ => rfl) (fun _ => ?_))
    refine (jev_blk 1 (pc' := 43) (L' := ([some (.ref 1), d1], [])) (S' := [.int 1]) (h' := (jX f g n2 p (jup pa (jq false) (jup (pa (jq false)) 5 ((jup (pa (jq false) 5) (u1.toNatClampNeg) u0)))) s sa sw (.ref (jpl false)) t, z)) rfl).trans ?_
    exact jev_fin rfl
  · refine (jev_grd (q := jout u1 6) (pc' := 42) (L' := ([some (.ref 1), d1], [])) (S' := []) (h' := (jX f g n2 p (jup pa (jq true) (jup (pa (jq true)) 5 ((jup (pa (jq true) 5) (u1.toNatClampNeg) u0)))) s sa sw (.ref (jpl true)) t, z)) rfl).trans (jite_congr (fun _ => rfl) (fun _ => ?_))
    refine (jev_blk 1 (pc' := 43) (L' := ([some (.ref 1), d1], [])) (S' := [.int 1]) (h' := (jX f g n2 p (jup pa (jq true) (jup (pa (jq true)) 5 ((jup (pa (jq true) 5) (u1.toNatClampNeg) u0)))) s sa sw (.ref (jpl true)) t, z)) rfl).trans ?_
    exact jev_fin rfl
set_option maxRecDepth 20000 in
theorem E_r_readFlap {D : Nat} {w : Bool}  {f : Nat → Int32} {g : Nat → Nat → Int32} {n2 : Nat → Nat → Int64} {p : Nat → Nat → Int32} {pa : Nat → Nat → Nat → Int32} {s : Nat → Nat → Int32} {sa : Nat → Nat → Nat → Int32} {sw : Bool} {t : List jE} {z : Nat × Nat × Nat × (Nat → Int32)}  : K_r_readFlap D w f g n2 p pa s sa sw t z = if (p (jq w) 4) < 10 then (jbO (K_k_step D f g n2 (jup p (jq w) (jup (p (jq w)) 4 (((p (jq w) 4) + 1)))) pa s sa sw (.ref (jpl w)) t z) (jk D 59 19 ([some (.ref 1), none, none, none], []) [])) else (jbO (K_r_fail D w 2 f g n2 p pa s sa sw t z) (jk D 59 8 ([some (.ref 1), none, none, none], []) [])) := by
  cases w
  · refine (jev_blk 5 (pc' := if (p (jq false) 4) < 10 then 9 else 5) (L' := ([some (.ref 1), none, none, none], [])) (S' := []) (h' := (jX f g n2 p pa s sa sw (.ref (jpl false)) t, z)) rfl).trans (jev_ite.trans (jite_congr (fun _ => ?_) (fun _ => ?_)))
    · refine (jev_blk 9 (pc' := 18) (L' := ([some (.ref 1), none, none, none], [])) (S' := [.ref 2]) (h' := (jX f g n2 (jup p (jq false) (jup (p (jq false)) 4 (((p (jq false) 4) + 1)))) pa s sa sw (.ref (jpl false)) t, z)) rfl).trans ?_
      exact jev_callb (nx := 19) (rest := []) rfl
    · refine (jev_blk 2 (pc' := 7) (L' := ([some (.ref 1), none, none, none], [])) (S' := [.int 2, .ref 1]) (h' := (jX f g n2 p pa s sa sw (.ref (jpl false)) t, z)) rfl).trans ?_
      exact jev_callb (nx := 8) (rest := []) rfl
  · refine (jev_blk 5 (pc' := if (p (jq true) 4) < 10 then 9 else 5) (L' := ([some (.ref 1), none, none, none], [])) (S' := []) (h' := (jX f g n2 p pa s sa sw (.ref (jpl true)) t, z)) rfl).trans (jev_ite.trans (jite_congr (fun _ => ?_) (fun _ => ?_)))
    · refine (jev_blk 9 (pc' := 18) (L' := ([some (.ref 1), none, none, none], [])) (S' := [.ref 2]) (h' := (jX f g n2 (jup p (jq true) (jup (p (jq true)) 4 (((p (jq true) 4) + 1)))) pa s sa sw (.ref (jpl true)) t, z)) rfl).trans ?_
      exact jev_callb (nx := 19) (rest := []) rfl
    · refine (jev_blk 2 (pc' := 7) (L' := ([some (.ref 1), none, none, none], [])) (S' := [.int 2, .ref 1]) (h' := (jX f g n2 p pa s sa sw (.ref (jpl true)) t, z)) rfl).trans ?_
      exact jev_callb (nx := 8) (rest := []) rfl
set_option maxRecDepth 20000 in
theorem E_r_readFlap_19 {D : Nat} {w : Bool} {d1 : Option Value} {d2 : Option Value} {d3 : Option Value} {f : Nat → Int32} {g : Nat → Nat → Int32} {n2 : Nat → Nat → Int64} {p : Nat → Nat → Int32} {pa : Nat → Nat → Nat → Int32} {s : Nat → Nat → Int32} {sa : Nat → Nat → Nat → Int32} {sw : Bool} {t : List jE} {z : Nat × Nat × Nat × (Nat → Int32)}  : jev D 59 19 ([some (.ref 1), d1, d2, d3], []) [] (jX f g n2 p pa s sa sw (.ref (jpl w)) t, z) = if (f 11) = 3 then (jbO (K_p_find D w (f 12) f g n2 p pa s sa sw (.ref (jpl w)) t z) (jk D 59 34 ([some (.ref 1), d1, d2, d3], []) [])) else (jbO (K_r_fail D w 1 f g n2 p pa s sa sw t z) (jk D 59 27 ([some (.ref 1), d1, d2, d3], []) [])) := by
  cases w
  · refine (jev_blk 5 (pc' := if (f 11) = 3 then 28 else 24) (L' := ([some (.ref 1), d1, d2, d3], [])) (S' := []) (h' := (jX f g n2 p pa s sa sw (.ref (jpl false)) t, z)) rfl).trans (jev_ite.trans (jite_congr (fun _ => ?_) (fun _ => ?_)))
    · refine (jev_blk 5 (pc' := 33) (L' := ([some (.ref 1), d1, d2, d3], [])) (S' := [.int (f 12), .ref (jpl false)]) (h' := (jX f g n2 p pa s sa sw (.ref (jpl false)) t, z)) rfl).trans ?_
      exact jev_callb (nx := 34) (rest := []) rfl
    · refine (jev_blk 2 (pc' := 26) (L' := ([some (.ref 1), d1, d2, d3], [])) (S' := [.int 1, .ref 1]) (h' := (jX f g n2 p pa s sa sw (.ref (jpl false)) t, z)) rfl).trans ?_
      exact jev_callb (nx := 27) (rest := []) rfl
  · refine (jev_blk 5 (pc' := if (f 11) = 3 then 28 else 24) (L' := ([some (.ref 1), d1, d2, d3], [])) (S' := []) (h' := (jX f g n2 p pa s sa sw (.ref (jpl true)) t, z)) rfl).trans (jev_ite.trans (jite_congr (fun _ => ?_) (fun _ => ?_)))
    · refine (jev_blk 5 (pc' := 33) (L' := ([some (.ref 1), d1, d2, d3], [])) (S' := [.int (f 12), .ref (jpl true)]) (h' := (jX f g n2 p pa s sa sw (.ref (jpl true)) t, z)) rfl).trans ?_
      exact jev_callb (nx := 34) (rest := []) rfl
    · refine (jev_blk 2 (pc' := 26) (L' := ([some (.ref 1), d1, d2, d3], [])) (S' := [.int 1, .ref 1]) (h' := (jX f g n2 p pa s sa sw (.ref (jpl true)) t, z)) rfl).trans ?_
      exact jev_callb (nx := 27) (rest := []) rfl
set_option maxRecDepth 20000 in
theorem E_r_readFlap_8 {D : Nat} {w : Bool} {d1 : Option Value} {d2 : Option Value} {d3 : Option Value} {u0 : Int32} {f : Nat → Int32} {g : Nat → Nat → Int32} {n2 : Nat → Nat → Int64} {p : Nat → Nat → Int32} {pa : Nat → Nat → Nat → Int32} {s : Nat → Nat → Int32} {sa : Nat → Nat → Nat → Int32} {sw : Bool} {t : List jE} {z : Nat × Nat × Nat × (Nat → Int32)}  : jev D 59 8 ([some (.ref 1), d1, d2, d3], []) [.int u0] (jX f g n2 p pa s sa sw (.ref (jpl w)) t, z) = if u0 = 0 ∨ u0 = 1 then some (.inl (some (.int u0)), (jX f g n2 p pa s sa sw (.ref (jpl w)) t, z)) else none := by
  cases w
  · exact jev_fing rfl
  · exact jev_fing rfl
set_option maxRecDepth 20000 in
theorem E_r_readFlap_34 {D : Nat} {w : Bool} {d1 : Option Value} {d2 : Option Value} {d3 : Option Value} {u0 : Int32} {f : Nat → Int32} {g : Nat → Nat → Int32} {n2 : Nat → Nat → Int64} {p : Nat → Nat → Int32} {pa : Nat → Nat → Nat → Int32} {s : Nat → Nat → Int32} {sa : Nat → Nat → Nat → Int32} {sw : Bool} {t : List jE} {z : Nat × Nat × Nat × (Nat → Int32)}  : jev D 59 34 ([some (.ref 1), d1, d2, d3], []) [.int u0] (jX f g n2 p pa s sa sw (.ref (jpl w)) t, z) = if u0 = (-1) then (jbO (K_r_fail D w 4 f g n2 p pa s sa sw t z) (jk D 59 41 ([some (.ref 1), some (.int u0), d2, d3], []) [])) else (jbO (K_k_step D f g n2 p pa s sa sw (.ref (jpl w)) t z) (jk D 59 45 ([some (.ref 1), some (.int u0), d2, d3], []) [])) := by
  cases w
  · refine (jev_blk 4 (pc' := if u0 = (-1) then 38 else 42) (L' := ([some (.ref 1), some (.int u0), d2, d3], [])) (S' := []) (h' := (jX f g n2 p pa s sa sw (.ref (jpl false)) t, z)) rfl).trans (jev_ite.trans (jite_congr (fun _ => ?_) (fun _ => ?_)))
    · refine (jev_blk 2 (pc' := 40) (L' := ([some (.ref 1), some (.int u0), d2, d3], [])) (S' := [.int 4, .ref 1]) (h' := (jX f g n2 p pa s sa sw (.ref (jpl false)) t, z)) rfl).trans ?_
      exact jev_callb (nx := 41) (rest := []) rfl
    · refine (jev_blk 2 (pc' := 44) (L' := ([some (.ref 1), some (.int u0), d2, d3], [])) (S' := [.ref 2]) (h' := (jX f g n2 p pa s sa sw (.ref (jpl false)) t, z)) rfl).trans ?_
      exact jev_callb (nx := 45) (rest := []) rfl
  · refine (jev_blk 4 (pc' := if u0 = (-1) then 38 else 42) (L' := ([some (.ref 1), some (.int u0), d2, d3], [])) (S' := []) (h' := (jX f g n2 p pa s sa sw (.ref (jpl true)) t, z)) rfl).trans (jev_ite.trans (jite_congr (fun _ => ?_) (fun _ => ?_)))
    · refine (jev_blk 2 (pc' := 40) (L' := ([some (.ref 1), some (.int u0), d2, d3], [])) (S' := [.int 4, .ref 1]) (h' := (jX f g n2 p pa s sa sw (.ref (jpl true)) t, z)) rfl).trans ?_
      exact jev_callb (nx := 41) (rest := []) rfl
    · refine (jev_blk 2 (pc' := 44) (L' := ([some (.ref 1), some (.int u0), d2, d3], [])) (S' := [.ref 2]) (h' := (jX f g n2 p pa s sa sw (.ref (jpl true)) t, z)) rfl).trans ?_
      exact jev_callb (nx := 45) (rest := []) rfl
set_option maxRecDepth 20000 in
theorem E_r_readFlap_27 {D : Nat} {w : Bool} {d1 : Option Value} {d2 : Option Value} {d3 : Option Value} {u0 : Int32} {f : Nat → Int32} {g : Nat → Nat → Int32} {n2 : Nat → Nat → Int64} {p : Nat → Nat → Int32} {pa : Nat → Nat → Nat → Int32} {s : Nat → Nat → Int32} {sa : Nat → Nat → Nat → Int32} {sw : Bool} {t : List jE} {z : Nat × Nat × Nat × (Nat → Int32)}  : jev D 59 27 ([some (.ref 1), d1, d2, d3], []) [.int u0] (jX f g n2 p pa s sa sw (.ref (jpl w)) t, z) = if u0 = 0 ∨ u0 = 1 then some (.inl (some (.int u0)), (jX f g n2 p pa s sa sw (.ref (jpl w)) t, z)) else none := by
  cases w
  · exact jev_fing rfl
  · exact jev_fing rfl
set_option maxRecDepth 20000 in
theorem E_r_readFlap_41 {D : Nat} {w : Bool} {d1 : Option Value} {d2 : Option Value} {d3 : Option Value} {u0 : Int32} {f : Nat → Int32} {g : Nat → Nat → Int32} {n2 : Nat → Nat → Int64} {p : Nat → Nat → Int32} {pa : Nat → Nat → Nat → Int32} {s : Nat → Nat → Int32} {sa : Nat → Nat → Nat → Int32} {sw : Bool} {t : List jE} {z : Nat × Nat × Nat × (Nat → Int32)}  : jev D 59 41 ([some (.ref 1), d1, d2, d3], []) [.int u0] (jX f g n2 p pa s sa sw (.ref (jpl w)) t, z) = if u0 = 0 ∨ u0 = 1 then some (.inl (some (.int u0)), (jX f g n2 p pa s sa sw (.ref (jpl w)) t, z)) else none := by
  cases w
  · exact jev_fing rfl
  · exact jev_fing rfl
set_option maxRecDepth 20000 in
theorem E_r_readFlap_45 {D : Nat} {w : Bool} {x1 : Int32} {d2 : Option Value} {d3 : Option Value} {f : Nat → Int32} {g : Nat → Nat → Int32} {n2 : Nat → Nat → Int64} {p : Nat → Nat → Int32} {pa : Nat → Nat → Nat → Int32} {s : Nat → Nat → Int32} {sa : Nat → Nat → Nat → Int32} {sw : Bool} {t : List jE} {z : Nat × Nat × Nat × (Nat → Int32)}  : jev D 59 45 ([some (.ref 1), some (.int x1), d2, d3], []) [] (jX f g n2 p pa s sa sw (.ref (jpl w)) t, z) = jbO (K_r_isNumber D w 0 11 f g n2 p pa s sa sw t z) (jk D 59 49 ([some (.ref 1), some (.int x1), d2, d3], []) []) := by
  cases w
  · refine (jev_blk 3 (pc' := 48) (L' := ([some (.ref 1), some (.int x1), d2, d3], [])) (S' := [.int 11, .int 0, .ref 1]) (h' := (jX f g n2 p pa s sa sw (.ref (jpl false)) t, z)) rfl).trans ?_
    exact jev_callb (nx := 49) (rest := []) rfl
  · refine (jev_blk 3 (pc' := 48) (L' := ([some (.ref 1), some (.int x1), d2, d3], [])) (S' := [.int 11, .int 0, .ref 1]) (h' := (jX f g n2 p pa s sa sw (.ref (jpl true)) t, z)) rfl).trans ?_
    exact jev_callb (nx := 49) (rest := []) rfl
set_option maxRecDepth 20000 in
theorem E_r_readFlap_49 {D : Nat} {w : Bool} {x1 : Int32} {d2 : Option Value} {d3 : Option Value} {u0 : Int32} {f : Nat → Int32} {g : Nat → Nat → Int32} {n2 : Nat → Nat → Int64} {p : Nat → Nat → Int32} {pa : Nat → Nat → Nat → Int32} {s : Nat → Nat → Int32} {sa : Nat → Nat → Nat → Int32} {sw : Bool} {t : List jE} {z : Nat × Nat × Nat × (Nat → Int32)}  : jev D 59 49 ([some (.ref 1), some (.int x1), d2, d3], []) [.int u0] (jX f g n2 p pa s sa sw (.ref (jpl w)) t, z) = if u0 = 0 then (some (.inl (some (.int 0)), (jX f g n2 p pa s sa sw (.ref (jpl w)) t, z))) else (jbO (K_r_take D w f g n2 p pa s sa sw t z) (jk D 59 54 ([some (.ref 1), some (.int x1), d2, d3], []) [])) := by
  cases w
  · refine (jev_blk 1 (pc' := if u0 = 0 then 50 else 52) (L' := ([some (.ref 1), some (.int x1), d2, d3], [])) (S' := []) (h' := (jX f g n2 p pa s sa sw (.ref (jpl false)) t, z)) rfl).trans (jev_ite.trans (jite_congr (fun _ => ?_) (fun _ => ?_)))
    · refine (jev_blk 1 (pc' := 51) (L' := ([some (.ref 1), some (.int x1), d2, d3], [])) (S' := [.int 0]) (h' := (jX f g n2 p pa s sa sw (.ref (jpl false)) t, z)) rfl).trans ?_
      exact jev_fin rfl
    · refine (jev_blk 1 (pc' := 53) (L' := ([some (.ref 1), some (.int x1), d2, d3], [])) (S' := [.ref 1]) (h' := (jX f g n2 p pa s sa sw (.ref (jpl false)) t, z)) rfl).trans ?_
      exact jev_callb (nx := 54) (rest := []) rfl
  · refine (jev_blk 1 (pc' := if u0 = 0 then 50 else 52) (L' := ([some (.ref 1), some (.int x1), d2, d3], [])) (S' := []) (h' := (jX f g n2 p pa s sa sw (.ref (jpl true)) t, z)) rfl).trans (jev_ite.trans (jite_congr (fun _ => ?_) (fun _ => ?_)))
    · refine (jev_blk 1 (pc' := 51) (L' := ([some (.ref 1), some (.int x1), d2, d3], [])) (S' := [.int 0]) (h' := (jX f g n2 p pa s sa sw (.ref (jpl true)) t, z)) rfl).trans ?_
      exact jev_fin rfl
    · refine (jev_blk 1 (pc' := 53) (L' := ([some (.ref 1), some (.int x1), d2, d3], [])) (S' := [.ref 1]) (h' := (jX f g n2 p pa s sa sw (.ref (jpl true)) t, z)) rfl).trans ?_
      exact jev_callb (nx := 54) (rest := []) rfl
set_option maxRecDepth 20000 in
theorem E_r_readFlap_54 {D : Nat} {w : Bool} {x1 : Int32} {d2 : Option Value} {d3 : Option Value} {u0 : Int32} {f : Nat → Int32} {g : Nat → Nat → Int32} {n2 : Nat → Nat → Int64} {p : Nat → Nat → Int32} {pa : Nat → Nat → Nat → Int32} {s : Nat → Nat → Int32} {sa : Nat → Nat → Nat → Int32} {sw : Bool} {t : List jE} {z : Nat × Nat × Nat × (Nat → Int32)}  : jev D 59 54 ([some (.ref 1), some (.int x1), d2, d3], []) [.int u0] (jX f g n2 p pa s sa sw (.ref (jpl w)) t, z) = jbO (K_r_isNumber D w u0 11 f g n2 p pa s sa sw t z) (jk D 59 59 ([some (.ref 1), some (.int x1), some (.int u0), d3], []) []) := by
  cases w
  · refine (jev_blk 4 (pc' := 58) (L' := ([some (.ref 1), some (.int x1), some (.int u0), d3], [])) (S' := [.int 11, .int u0, .ref 1]) (h' := (jX f g n2 p pa s sa sw (.ref (jpl false)) t, z)) rfl).trans ?_
    exact jev_callb (nx := 59) (rest := []) rfl
  · refine (jev_blk 4 (pc' := 58) (L' := ([some (.ref 1), some (.int x1), some (.int u0), d3], [])) (S' := [.int 11, .int u0, .ref 1]) (h' := (jX f g n2 p pa s sa sw (.ref (jpl true)) t, z)) rfl).trans ?_
    exact jev_callb (nx := 59) (rest := []) rfl
set_option maxRecDepth 20000 in
theorem E_r_readFlap_59 {D : Nat} {w : Bool} {x1 : Int32} {x2 : Int32} {d3 : Option Value} {u0 : Int32} {f : Nat → Int32} {g : Nat → Nat → Int32} {n2 : Nat → Nat → Int64} {p : Nat → Nat → Int32} {pa : Nat → Nat → Nat → Int32} {s : Nat → Nat → Int32} {sa : Nat → Nat → Nat → Int32} {sw : Bool} {t : List jE} {z : Nat × Nat × Nat × (Nat → Int32)}  : jev D 59 59 ([some (.ref 1), some (.int x1), some (.int x2), d3], []) [.int u0] (jX f g n2 p pa s sa sw (.ref (jpl w)) t, z) = if u0 = 0 then (some (.inl (some (.int 0)), (jX f g n2 p pa s sa sw (.ref (jpl w)) t, z))) else (jbO (K_r_take D w f g n2 p pa s sa sw t z) (jk D 59 64 ([some (.ref 1), some (.int x1), some (.int x2), d3], []) [])) := by
  cases w
  · refine (jev_blk 1 (pc' := if u0 = 0 then 60 else 62) (L' := ([some (.ref 1), some (.int x1), some (.int x2), d3], [])) (S' := []) (h' := (jX f g n2 p pa s sa sw (.ref (jpl false)) t, z)) rfl).trans (jev_ite.trans (jite_congr (fun _ => ?_) (fun _ => ?_)))
    · refine (jev_blk 1 (pc' := 61) (L' := ([some (.ref 1), some (.int x1), some (.int x2), d3], [])) (S' := [.int 0]) (h' := (jX f g n2 p pa s sa sw (.ref (jpl false)) t, z)) rfl).trans ?_
      exact jev_fin rfl
    · refine (jev_blk 1 (pc' := 63) (L' := ([some (.ref 1), some (.int x1), some (.int x2), d3], [])) (S' := [.ref 1]) (h' := (jX f g n2 p pa s sa sw (.ref (jpl false)) t, z)) rfl).trans ?_
      exact jev_callb (nx := 64) (rest := []) rfl
  · refine (jev_blk 1 (pc' := if u0 = 0 then 60 else 62) (L' := ([some (.ref 1), some (.int x1), some (.int x2), d3], [])) (S' := []) (h' := (jX f g n2 p pa s sa sw (.ref (jpl true)) t, z)) rfl).trans (jev_ite.trans (jite_congr (fun _ => ?_) (fun _ => ?_)))
    · refine (jev_blk 1 (pc' := 61) (L' := ([some (.ref 1), some (.int x1), some (.int x2), d3], [])) (S' := [.int 0]) (h' := (jX f g n2 p pa s sa sw (.ref (jpl true)) t, z)) rfl).trans ?_
      exact jev_fin rfl
    · refine (jev_blk 1 (pc' := 63) (L' := ([some (.ref 1), some (.int x1), some (.int x2), d3], [])) (S' := [.ref 1]) (h' := (jX f g n2 p pa s sa sw (.ref (jpl true)) t, z)) rfl).trans ?_
      exact jev_callb (nx := 64) (rest := []) rfl
set_option maxRecDepth 20000 in
theorem E_r_readFlap_64 {D : Nat} {w : Bool} {x1 : Int32} {x2 : Int32} {d3 : Option Value} {u0 : Int32} {f : Nat → Int32} {g : Nat → Nat → Int32} {n2 : Nat → Nat → Int64} {p : Nat → Nat → Int32} {pa : Nat → Nat → Nat → Int32} {s : Nat → Nat → Int32} {sa : Nat → Nat → Nat → Int32} {sw : Bool} {t : List jE} {z : Nat × Nat × Nat × (Nat → Int32)}  : jev D 59 64 ([some (.ref 1), some (.int x1), some (.int x2), d3], []) [.int u0] (jX f g n2 p pa s sa sw (.ref (jpl w)) t, z) = if jout x1 6 then none else (if jout x1 6 then none else (some (.inl (some (.int 1)), (jX f g n2 p (jup pa (jq w) (jup (pa (jq w)) 6 ((jup (pa (jq w) 6) (x1.toNatClampNeg) ((pa (jq w) 6 x1.toNatClampNeg) ||| ((1 <<< ((u0 + 1) &&& 31)) - (1 <<< (x2 &&& 31)))))))) s sa sw (.ref (jpl w)) t, z)))) := by
  cases w
  · refine (jev_blk 6 (pc' := 70) (L' := ([some (.ref 1), some (.int x1), some (.int x2), some (.int u0)], [])) (S' := [.int x1, .ref ((jpl false) + 7), .int x1, .ref ((jpl false) + 7)]) (h' := (jX f g n2 p pa s sa sw (.ref (jpl false)) t, z)) rfl).trans ?_
    refine (jev_grd (q := jout x1 6) (pc' := 71) (L' := ([some (.ref 1), some (.int x1), some (.int x2), some (.int u0)], [])) (S' := [.int (pa (jq false) 6 x1.toNatClampNeg), .int x1, .ref ((jpl false) + 7)]) (h' := (jX f g n2 p pa s sa sw (.ref (jpl false)) t, z)) rfl).trans (jite_congr (fun _ => rfl) (fun _ => ?_))
    refine (jev_blk 10 (pc' := 81) (L' := ([some (.ref 1), some (.int x1), some (.int x2), some (.int u0)], [])) (S' := [.int ((pa (jq false) 6 x1.toNatClampNeg) ||| ((1 <<< ((u0 + 1) &&& 31)) - (1 <<< (x2 &&& 31)))), .int x1, .ref ((jpl false) + 7)]) (h' := (jX f g n2 p pa s sa sw (.ref (jpl false)) t, z)) rfl).trans ?_
    refine (jev_grd (q := jout x1 6) (pc' := 82) (L' := ([some (.ref 1), some (.int x1), some (.int x2), some (.int u0)], [])) (S' := []) (h' := (jX f g n2 p (jup pa (jq false) (jup (pa (jq false)) 6 ((jup (pa (jq false) 6) (x1.toNatClampNeg) ((pa (jq false) 6 x1.toNatClampNeg) ||| ((1 <<< ((u0 + 1) &&& 31)) - (1 <<< (x2 &&& 31)))))))) s sa sw (.ref (jpl false)) t, z)) rfl).trans (jite_congr (fun _ => rfl) (fun _ => ?_))
    refine (jev_blk 1 (pc' := 83) (L' := ([some (.ref 1), some (.int x1), some (.int x2), some (.int u0)], [])) (S' := [.int 1]) (h' := (jX f g n2 p (jup pa (jq false) (jup (pa (jq false)) 6 ((jup (pa (jq false) 6) (x1.toNatClampNeg) ((pa (jq false) 6 x1.toNatClampNeg) ||| ((1 <<< ((u0 + 1) &&& 31)) - (1 <<< (x2 &&& 31)))))))) s sa sw (.ref (jpl false)) t, z)) rfl).trans ?_
    exact jev_fin rfl
  · refine (jev_blk 6 (pc' := 70) (L' := ([some (.ref 1), some (.int x1), some (.int x2), some (.int u0)], [])) (S' := [.int x1, .ref ((jpl true) + 7), .int x1, .ref ((jpl true) + 7)]) (h' := (jX f g n2 p pa s sa sw (.ref (jpl true)) t, z)) rfl).trans ?_
    refine (jev_grd (q := jout x1 6) (pc' := 71) (L' := ([some (.ref 1), some (.int x1), some (.int x2), some (.int u0)], [])) (S' := [.int (pa (jq true) 6 x1.toNatClampNeg), .int x1, .ref ((jpl true) + 7)]) (h' := (jX f g n2 p pa s sa sw (.ref (jpl true)) t, z)) rfl).trans (jite_congr (fun _ => rfl) (fun _ => ?_))
    refine (jev_blk 10 (pc' := 81) (L' := ([some (.ref 1), some (.int x1), some (.int x2), some (.int u0)], [])) (S' := [.int ((pa (jq true) 6 x1.toNatClampNeg) ||| ((1 <<< ((u0 + 1) &&& 31)) - (1 <<< (x2 &&& 31)))), .int x1, .ref ((jpl true) + 7)]) (h' := (jX f g n2 p pa s sa sw (.ref (jpl true)) t, z)) rfl).trans ?_
    refine (jev_grd (q := jout x1 6) (pc' := 82) (L' := ([some (.ref 1), some (.int x1), some (.int x2), some (.int u0)], [])) (S' := []) (h' := (jX f g n2 p (jup pa (jq true) (jup (pa (jq true)) 6 ((jup (pa (jq true) 6) (x1.toNatClampNeg) ((pa (jq true) 6 x1.toNatClampNeg) ||| ((1 <<< ((u0 + 1) &&& 31)) - (1 <<< (x2 &&& 31)))))))) s sa sw (.ref (jpl true)) t, z)) rfl).trans (jite_congr (fun _ => rfl) (fun _ => ?_))
    refine (jev_blk 1 (pc' := 83) (L' := ([some (.ref 1), some (.int x1), some (.int x2), some (.int u0)], [])) (S' := [.int 1]) (h' := (jX f g n2 p (jup pa (jq true) (jup (pa (jq true)) 6 ((jup (pa (jq true) 6) (x1.toNatClampNeg) ((pa (jq true) 6 x1.toNatClampNeg) ||| ((1 <<< ((u0 + 1) &&& 31)) - (1 <<< (x2 &&& 31)))))))) s sa sw (.ref (jpl true)) t, z)) rfl).trans ?_
    exact jev_fin rfl
set_option maxRecDepth 20000 in
theorem E_r_readWind {D : Nat} {w : Bool}  {f : Nat → Int32} {g : Nat → Nat → Int32} {n2 : Nat → Nat → Int64} {p : Nat → Nat → Int32} {pa : Nat → Nat → Nat → Int32} {s : Nat → Nat → Int32} {sa : Nat → Nat → Nat → Int32} {sw : Bool} {t : List jE} {z : Nat × Nat × Nat × (Nat → Int32)}  : K_r_readWind D w f g n2 p pa s sa sw t z = if (p (jq w) 5) < 14 then (jbO (K_k_step D f g n2 p pa s sa sw (.ref (jpl w)) t z) (jk D 60 12 ([some (.ref 1)], []) [])) else (jbO (K_r_fail D w 2 f g n2 p pa s sa sw t z) (jk D 60 8 ([some (.ref 1)], []) [])) := by
  cases w
  · refine (jev_blk 5 (pc' := if (p (jq false) 5) < 14 then 9 else 5) (L' := ([some (.ref 1)], [])) (S' := []) (h' := (jX f g n2 p pa s sa sw (.ref (jpl false)) t, z)) rfl).trans (jev_ite.trans (jite_congr (fun _ => ?_) (fun _ => ?_)))
    · refine (jev_blk 2 (pc' := 11) (L' := ([some (.ref 1)], [])) (S' := [.ref 2]) (h' := (jX f g n2 p pa s sa sw (.ref (jpl false)) t, z)) rfl).trans ?_
      exact jev_callb (nx := 12) (rest := []) rfl
    · refine (jev_blk 2 (pc' := 7) (L' := ([some (.ref 1)], [])) (S' := [.int 2, .ref 1]) (h' := (jX f g n2 p pa s sa sw (.ref (jpl false)) t, z)) rfl).trans ?_
      exact jev_callb (nx := 8) (rest := []) rfl
  · refine (jev_blk 5 (pc' := if (p (jq true) 5) < 14 then 9 else 5) (L' := ([some (.ref 1)], [])) (S' := []) (h' := (jX f g n2 p pa s sa sw (.ref (jpl true)) t, z)) rfl).trans (jev_ite.trans (jite_congr (fun _ => ?_) (fun _ => ?_)))
    · refine (jev_blk 2 (pc' := 11) (L' := ([some (.ref 1)], [])) (S' := [.ref 2]) (h' := (jX f g n2 p pa s sa sw (.ref (jpl true)) t, z)) rfl).trans ?_
      exact jev_callb (nx := 12) (rest := []) rfl
    · refine (jev_blk 2 (pc' := 7) (L' := ([some (.ref 1)], [])) (S' := [.int 2, .ref 1]) (h' := (jX f g n2 p pa s sa sw (.ref (jpl true)) t, z)) rfl).trans ?_
      exact jev_callb (nx := 8) (rest := []) rfl
set_option maxRecDepth 20000 in
theorem E_r_readWind_12 {D : Nat} {w : Bool}  {f : Nat → Int32} {g : Nat → Nat → Int32} {n2 : Nat → Nat → Int64} {p : Nat → Nat → Int32} {pa : Nat → Nat → Nat → Int32} {s : Nat → Nat → Int32} {sa : Nat → Nat → Nat → Int32} {sw : Bool} {t : List jE} {z : Nat × Nat × Nat × (Nat → Int32)}  : jev D 60 12 ([some (.ref 1)], []) [] (jX f g n2 p pa s sa sw (.ref (jpl w)) t, z) = jbO (K_r_isNumber D w 0 9 f g n2 p pa s sa sw t z) (jk D 60 16 ([some (.ref 1)], []) []) := by
  cases w
  · refine (jev_blk 3 (pc' := 15) (L' := ([some (.ref 1)], [])) (S' := [.int 9, .int 0, .ref 1]) (h' := (jX f g n2 p pa s sa sw (.ref (jpl false)) t, z)) rfl).trans ?_
    exact jev_callb (nx := 16) (rest := []) rfl
  · refine (jev_blk 3 (pc' := 15) (L' := ([some (.ref 1)], [])) (S' := [.int 9, .int 0, .ref 1]) (h' := (jX f g n2 p pa s sa sw (.ref (jpl true)) t, z)) rfl).trans ?_
    exact jev_callb (nx := 16) (rest := []) rfl
set_option maxRecDepth 20000 in
theorem E_r_readWind_8 {D : Nat} {w : Bool} {u0 : Int32} {f : Nat → Int32} {g : Nat → Nat → Int32} {n2 : Nat → Nat → Int64} {p : Nat → Nat → Int32} {pa : Nat → Nat → Nat → Int32} {s : Nat → Nat → Int32} {sa : Nat → Nat → Nat → Int32} {sw : Bool} {t : List jE} {z : Nat × Nat × Nat × (Nat → Int32)}  : jev D 60 8 ([some (.ref 1)], []) [.int u0] (jX f g n2 p pa s sa sw (.ref (jpl w)) t, z) = if u0 = 0 ∨ u0 = 1 then some (.inl (some (.int u0)), (jX f g n2 p pa s sa sw (.ref (jpl w)) t, z)) else none := by
  cases w
  · exact jev_fing rfl
  · exact jev_fing rfl
set_option maxRecDepth 20000 in
theorem E_r_readWind_16 {D : Nat} {w : Bool} {u0 : Int32} {f : Nat → Int32} {g : Nat → Nat → Int32} {n2 : Nat → Nat → Int64} {p : Nat → Nat → Int32} {pa : Nat → Nat → Nat → Int32} {s : Nat → Nat → Int32} {sa : Nat → Nat → Nat → Int32} {sw : Bool} {t : List jE} {z : Nat × Nat × Nat × (Nat → Int32)}  : jev D 60 16 ([some (.ref 1)], []) [.int u0] (jX f g n2 p pa s sa sw (.ref (jpl w)) t, z) = if u0 = 0 then (some (.inl (some (.int 0)), (jX f g n2 p pa s sa sw (.ref (jpl w)) t, z))) else (jbO (K_r_take D w f g n2 p pa s sa sw t z) (jk D 60 27 ([some (.ref 1)], []) [.int (p (jq w) 5), .ref ((jpl w) + 8)])) := by
  cases w
  · refine (jev_blk 1 (pc' := if u0 = 0 then 17 else 19) (L' := ([some (.ref 1)], [])) (S' := []) (h' := (jX f g n2 p pa s sa sw (.ref (jpl false)) t, z)) rfl).trans (jev_ite.trans (jite_congr (fun _ => ?_) (fun _ => ?_)))
    · refine (jev_blk 1 (pc' := 18) (L' := ([some (.ref 1)], [])) (S' := [.int 0]) (h' := (jX f g n2 p pa s sa sw (.ref (jpl false)) t, z)) rfl).trans ?_
      exact jev_fin rfl
    · refine (jev_blk 7 (pc' := 26) (L' := ([some (.ref 1)], [])) (S' := [.ref 1, .int (p (jq false) 5), .ref ((jpl false) + 8)]) (h' := (jX f g n2 p pa s sa sw (.ref (jpl false)) t, z)) rfl).trans ?_
      exact jev_callb (nx := 27) (rest := [.int (p (jq false) 5), .ref ((jpl false) + 8)]) rfl
  · refine (jev_blk 1 (pc' := if u0 = 0 then 17 else 19) (L' := ([some (.ref 1)], [])) (S' := []) (h' := (jX f g n2 p pa s sa sw (.ref (jpl true)) t, z)) rfl).trans (jev_ite.trans (jite_congr (fun _ => ?_) (fun _ => ?_)))
    · refine (jev_blk 1 (pc' := 18) (L' := ([some (.ref 1)], [])) (S' := [.int 0]) (h' := (jX f g n2 p pa s sa sw (.ref (jpl true)) t, z)) rfl).trans ?_
      exact jev_fin rfl
    · refine (jev_blk 7 (pc' := 26) (L' := ([some (.ref 1)], [])) (S' := [.ref 1, .int (p (jq true) 5), .ref ((jpl true) + 8)]) (h' := (jX f g n2 p pa s sa sw (.ref (jpl true)) t, z)) rfl).trans ?_
      exact jev_callb (nx := 27) (rest := [.int (p (jq true) 5), .ref ((jpl true) + 8)]) rfl
set_option maxRecDepth 20000 in
theorem E_r_readWind_27 {D : Nat} {w : Bool} {u0 : Int32} {u1 : Int32} {f : Nat → Int32} {g : Nat → Nat → Int32} {n2 : Nat → Nat → Int64} {p : Nat → Nat → Int32} {pa : Nat → Nat → Nat → Int32} {s : Nat → Nat → Int32} {sa : Nat → Nat → Nat → Int32} {sw : Bool} {t : List jE} {z : Nat × Nat × Nat × (Nat → Int32)}  : jev D 60 27 ([some (.ref 1)], []) [.int u0, .int u1, .ref ((jpl w) + 8)] (jX f g n2 p pa s sa sw (.ref (jpl w)) t, z) = if jout u1 14 then none else (some (.inl (some (.int 1)), (jX f g n2 (jup p (jq w) (jup (p (jq w)) 5 (((p (jq w) 5) + 1)))) (jup pa (jq w) (jup (pa (jq w)) 7 ((jup (pa (jq w) 7) (u1.toNatClampNeg) u0)))) s sa sw (.ref (jpl w)) t, z))) := by
  cases w
  · refine (jev_grd (q := jout u1 14) (pc' := 28) (L' := ([some (.ref 1)], [])) (S' := []) (h' := (jX f g n2 p (jup pa (jq false) (jup (pa (jq false)) 7 ((jup (pa (jq false) 7) (u1.toNatClampNeg) u0)))) s sa sw (.ref (jpl false)) t, z)) rfl).trans (jite_congr (fun _ => rfl) (fun _ => ?_))
    refine (jev_blk 8 (pc' := 36) (L' := ([some (.ref 1)], [])) (S' := [.int 1]) (h' := (jX f g n2 (jup p (jq false) (jup (p (jq false)) 5 (((p (jq false) 5) + 1)))) (jup pa (jq false) (jup (pa (jq false)) 7 ((jup (pa (jq false) 7) (u1.toNatClampNeg) u0)))) s sa sw (.ref (jpl false)) t, z)) rfl).trans ?_
    exact jev_fin rfl
  · refine (jev_grd (q := jout u1 14) (pc' := 28) (L' := ([some (.ref 1)], [])) (S' := []) (h' := (jX f g n2 p (jup pa (jq true) (jup (pa (jq true)) 7 ((jup (pa (jq true) 7) (u1.toNatClampNeg) u0)))) s sa sw (.ref (jpl true)) t, z)) rfl).trans (jite_congr (fun _ => rfl) (fun _ => ?_))
    refine (jev_blk 8 (pc' := 36) (L' := ([some (.ref 1)], [])) (S' := [.int 1]) (h' := (jX f g n2 (jup p (jq true) (jup (p (jq true)) 5 (((p (jq true) 5) + 1)))) (jup pa (jq true) (jup (pa (jq true)) 7 ((jup (pa (jq true) 7) (u1.toNatClampNeg) u0)))) s sa sw (.ref (jpl true)) t, z)) rfl).trans ?_
    exact jev_fin rfl
set_option maxRecDepth 20000 in
theorem E_r_readSingle {D : Nat} {w : Bool} {a0 : Int32} {f : Nat → Int32} {g : Nat → Nat → Int32} {n2 : Nat → Nat → Int64} {p : Nat → Nat → Int32} {pa : Nat → Nat → Nat → Int32} {s : Nat → Nat → Int32} {sa : Nat → Nat → Nat → Int32} {sw : Bool} {t : List jE} {z : Nat × Nat × Nat × (Nat → Int32)}  : K_r_readSingle D w a0 f g n2 p pa s sa sw t z = if a0 = 4 then (K_r_readSingle_16 D w a0 none f g n2 p pa s sa sw t z) else (if a0 = 5 then (K_r_readSingle_16 D w a0 none f g n2 p pa s sa sw t z) else (if a0 = 6 then (K_r_readSingle_16 D w a0 none f g n2 p pa s sa sw t z) else (if a0 = 7 then (K_r_readSingle_16 D w a0 none f g n2 p pa s sa sw t z) else (jbO (K_r_fail D w 1 f g n2 p pa s sa sw t z) (jk D 61 15 ([some (.ref 1), some (.int a0), none], []) []))))) := by
  cases w
  · refine (jev_blk 3 (pc' := if a0 = 4 then 16 else 3) (L' := ([some (.ref 1), some (.int a0), none], [])) (S' := []) (h' := (jX f g n2 p pa s sa sw (.ref (jpl false)) t, z)) rfl).trans (jev_ite.trans (jite_congr (fun _ => ?_) (fun _ => ?_)))
    · rfl
    · refine (jev_blk 3 (pc' := if a0 = 5 then 16 else 6) (L' := ([some (.ref 1), some (.int a0), none], [])) (S' := []) (h' := (jX f g n2 p pa s sa sw (.ref (jpl false)) t, z)) rfl).trans (jev_ite.trans (jite_congr (fun _ => ?_) (fun _ => ?_)))
      · rfl
      · refine (jev_blk 3 (pc' := if a0 = 6 then 16 else 9) (L' := ([some (.ref 1), some (.int a0), none], [])) (S' := []) (h' := (jX f g n2 p pa s sa sw (.ref (jpl false)) t, z)) rfl).trans (jev_ite.trans (jite_congr (fun _ => ?_) (fun _ => ?_)))
        · rfl
        · refine (jev_blk 3 (pc' := if a0 = 7 then 16 else 12) (L' := ([some (.ref 1), some (.int a0), none], [])) (S' := []) (h' := (jX f g n2 p pa s sa sw (.ref (jpl false)) t, z)) rfl).trans (jev_ite.trans (jite_congr (fun _ => ?_) (fun _ => ?_)))
          · rfl
          · refine (jev_blk 2 (pc' := 14) (L' := ([some (.ref 1), some (.int a0), none], [])) (S' := [.int 1, .ref 1]) (h' := (jX f g n2 p pa s sa sw (.ref (jpl false)) t, z)) rfl).trans ?_
            exact jev_callb (nx := 15) (rest := []) rfl
  · refine (jev_blk 3 (pc' := if a0 = 4 then 16 else 3) (L' := ([some (.ref 1), some (.int a0), none], [])) (S' := []) (h' := (jX f g n2 p pa s sa sw (.ref (jpl true)) t, z)) rfl).trans (jev_ite.trans (jite_congr (fun _ => ?_) (fun _ => ?_)))
    · rfl
    · refine (jev_blk 3 (pc' := if a0 = 5 then 16 else 6) (L' := ([some (.ref 1), some (.int a0), none], [])) (S' := []) (h' := (jX f g n2 p pa s sa sw (.ref (jpl true)) t, z)) rfl).trans (jev_ite.trans (jite_congr (fun _ => ?_) (fun _ => ?_)))
      · rfl
      · refine (jev_blk 3 (pc' := if a0 = 6 then 16 else 9) (L' := ([some (.ref 1), some (.int a0), none], [])) (S' := []) (h' := (jX f g n2 p pa s sa sw (.ref (jpl true)) t, z)) rfl).trans (jev_ite.trans (jite_congr (fun _ => ?_) (fun _ => ?_)))
        · rfl
        · refine (jev_blk 3 (pc' := if a0 = 7 then 16 else 12) (L' := ([some (.ref 1), some (.int a0), none], [])) (S' := []) (h' := (jX f g n2 p pa s sa sw (.ref (jpl true)) t, z)) rfl).trans (jev_ite.trans (jite_congr (fun _ => ?_) (fun _ => ?_)))
          · rfl
          · refine (jev_blk 2 (pc' := 14) (L' := ([some (.ref 1), some (.int a0), none], [])) (S' := [.int 1, .ref 1]) (h' := (jX f g n2 p pa s sa sw (.ref (jpl true)) t, z)) rfl).trans ?_
            exact jev_callb (nx := 15) (rest := []) rfl
set_option maxRecDepth 20000 in
theorem E_r_readSingle_16 {D : Nat} {w : Bool} {x1 : Int32} {d2 : Option Value} {f : Nat → Int32} {g : Nat → Nat → Int32} {n2 : Nat → Nat → Int64} {p : Nat → Nat → Int32} {pa : Nat → Nat → Nat → Int32} {s : Nat → Nat → Int32} {sa : Nat → Nat → Nat → Int32} {sw : Bool} {t : List jE} {z : Nat × Nat × Nat × (Nat → Int32)}  : K_r_readSingle_16 D w x1 d2 f g n2 p pa s sa sw t z = jbO (K_r_isFirst D w x1 f g n2 p pa s sa sw t z) (jk D 61 19 ([some (.ref 1), some (.int x1), d2], []) []) := by
  cases w
  · refine (jev_blk 2 (pc' := 18) (L' := ([some (.ref 1), some (.int x1), d2], [])) (S' := [.int x1, .ref 1]) (h' := (jX f g n2 p pa s sa sw (.ref (jpl false)) t, z)) rfl).trans ?_
    exact jev_callb (nx := 19) (rest := []) rfl
  · refine (jev_blk 2 (pc' := 18) (L' := ([some (.ref 1), some (.int x1), d2], [])) (S' := [.int x1, .ref 1]) (h' := (jX f g n2 p pa s sa sw (.ref (jpl true)) t, z)) rfl).trans ?_
    exact jev_callb (nx := 19) (rest := []) rfl
set_option maxRecDepth 20000 in
theorem E_r_readSingle_15 {D : Nat} {w : Bool} {d1 : Option Value} {d2 : Option Value} {u0 : Int32} {f : Nat → Int32} {g : Nat → Nat → Int32} {n2 : Nat → Nat → Int64} {p : Nat → Nat → Int32} {pa : Nat → Nat → Nat → Int32} {s : Nat → Nat → Int32} {sa : Nat → Nat → Nat → Int32} {sw : Bool} {t : List jE} {z : Nat × Nat × Nat × (Nat → Int32)}  : jev D 61 15 ([some (.ref 1), d1, d2], []) [.int u0] (jX f g n2 p pa s sa sw (.ref (jpl w)) t, z) = if u0 = 0 ∨ u0 = 1 then some (.inl (some (.int u0)), (jX f g n2 p pa s sa sw (.ref (jpl w)) t, z)) else none := by
  cases w
  · exact jev_fing rfl
  · exact jev_fing rfl
set_option maxRecDepth 20000 in
theorem E_r_readSingle_19 {D : Nat} {w : Bool} {x1 : Int32} {d2 : Option Value} {u0 : Int32} {f : Nat → Int32} {g : Nat → Nat → Int32} {n2 : Nat → Nat → Int64} {p : Nat → Nat → Int32} {pa : Nat → Nat → Nat → Int32} {s : Nat → Nat → Int32} {sa : Nat → Nat → Nat → Int32} {sw : Bool} {t : List jE} {z : Nat × Nat × Nat × (Nat → Int32)}  : jev D 61 19 ([some (.ref 1), some (.int x1), d2], []) [.int u0] (jX f g n2 p pa s sa sw (.ref (jpl w)) t, z) = if u0 = 0 then (some (.inl (some (.int 0)), (jX f g n2 p pa s sa sw (.ref (jpl w)) t, z))) else (jbO (K_k_step D f g n2 p pa s sa sw (.ref (jpl w)) t z) (jk D 61 25 ([some (.ref 1), some (.int x1), d2], []) [])) := by
  cases w
  · refine (jev_blk 1 (pc' := if u0 = 0 then 20 else 22) (L' := ([some (.ref 1), some (.int x1), d2], [])) (S' := []) (h' := (jX f g n2 p pa s sa sw (.ref (jpl false)) t, z)) rfl).trans (jev_ite.trans (jite_congr (fun _ => ?_) (fun _ => ?_)))
    · refine (jev_blk 1 (pc' := 21) (L' := ([some (.ref 1), some (.int x1), d2], [])) (S' := [.int 0]) (h' := (jX f g n2 p pa s sa sw (.ref (jpl false)) t, z)) rfl).trans ?_
      exact jev_fin rfl
    · refine (jev_blk 2 (pc' := 24) (L' := ([some (.ref 1), some (.int x1), d2], [])) (S' := [.ref 2]) (h' := (jX f g n2 p pa s sa sw (.ref (jpl false)) t, z)) rfl).trans ?_
      exact jev_callb (nx := 25) (rest := []) rfl
  · refine (jev_blk 1 (pc' := if u0 = 0 then 20 else 22) (L' := ([some (.ref 1), some (.int x1), d2], [])) (S' := []) (h' := (jX f g n2 p pa s sa sw (.ref (jpl true)) t, z)) rfl).trans (jev_ite.trans (jite_congr (fun _ => ?_) (fun _ => ?_)))
    · refine (jev_blk 1 (pc' := 21) (L' := ([some (.ref 1), some (.int x1), d2], [])) (S' := [.int 0]) (h' := (jX f g n2 p pa s sa sw (.ref (jpl true)) t, z)) rfl).trans ?_
      exact jev_fin rfl
    · refine (jev_blk 2 (pc' := 24) (L' := ([some (.ref 1), some (.int x1), d2], [])) (S' := [.ref 2]) (h' := (jX f g n2 p pa s sa sw (.ref (jpl true)) t, z)) rfl).trans ?_
      exact jev_callb (nx := 25) (rest := []) rfl
set_option maxRecDepth 20000 in
theorem E_r_readSingle_25 {D : Nat} {w : Bool} {x1 : Int32} {d2 : Option Value} {f : Nat → Int32} {g : Nat → Nat → Int32} {n2 : Nat → Nat → Int64} {p : Nat → Nat → Int32} {pa : Nat → Nat → Nat → Int32} {s : Nat → Nat → Int32} {sa : Nat → Nat → Nat → Int32} {sw : Bool} {t : List jE} {z : Nat × Nat × Nat × (Nat → Int32)}  : jev D 61 25 ([some (.ref 1), some (.int x1), d2], []) [] (jX f g n2 p pa s sa sw (.ref (jpl w)) t, z) = jbO (K_r_highestOf D w x1 f g n2 p pa s sa sw t z) (jk D 61 29 ([some (.ref 1), some (.int x1), d2], []) [.int 0, .ref 1]) := by
  cases w
  · refine (jev_blk 3 (pc' := 28) (L' := ([some (.ref 1), some (.int x1), d2], [])) (S' := [.int x1, .int 0, .ref 1]) (h' := (jX f g n2 p pa s sa sw (.ref (jpl false)) t, z)) rfl).trans ?_
    exact jev_callb (nx := 29) (rest := [.int 0, .ref 1]) rfl
  · refine (jev_blk 3 (pc' := 28) (L' := ([some (.ref 1), some (.int x1), d2], [])) (S' := [.int x1, .int 0, .ref 1]) (h' := (jX f g n2 p pa s sa sw (.ref (jpl true)) t, z)) rfl).trans ?_
    exact jev_callb (nx := 29) (rest := [.int 0, .ref 1]) rfl
set_option maxRecDepth 20000 in
theorem E_r_readSingle_29 {D : Nat} {w : Bool} {x1 : Int32} {d2 : Option Value} {u0 : Int32} {u1 : Int32} {f : Nat → Int32} {g : Nat → Nat → Int32} {n2 : Nat → Nat → Int64} {p : Nat → Nat → Int32} {pa : Nat → Nat → Nat → Int32} {s : Nat → Nat → Int32} {sa : Nat → Nat → Nat → Int32} {sw : Bool} {t : List jE} {z : Nat × Nat × Nat × (Nat → Int32)}  : jev D 61 29 ([some (.ref 1), some (.int x1), d2], []) [.int u0, .int u1, .ref 1] (jX f g n2 p pa s sa sw (.ref (jpl w)) t, z) = jbO (K_r_isNumber D w u1 u0 f g n2 p pa s sa sw t z) (jk D 61 30 ([some (.ref 1), some (.int x1), d2], []) []) := by
  cases w
  · exact jev_callb (nx := 30) (rest := []) rfl
  · exact jev_callb (nx := 30) (rest := []) rfl
set_option maxRecDepth 20000 in
theorem E_r_readSingle_30 {D : Nat} {w : Bool} {x1 : Int32} {d2 : Option Value} {u0 : Int32} {f : Nat → Int32} {g : Nat → Nat → Int32} {n2 : Nat → Nat → Int64} {p : Nat → Nat → Int32} {pa : Nat → Nat → Nat → Int32} {s : Nat → Nat → Int32} {sa : Nat → Nat → Nat → Int32} {sw : Bool} {t : List jE} {z : Nat × Nat × Nat × (Nat → Int32)}  : jev D 61 30 ([some (.ref 1), some (.int x1), d2], []) [.int u0] (jX f g n2 p pa s sa sw (.ref (jpl w)) t, z) = if u0 = 0 then (some (.inl (some (.int 0)), (jX f g n2 p pa s sa sw (.ref (jpl w)) t, z))) else (jbO (K_r_take D w f g n2 p pa s sa sw t z) (jk D 61 35 ([some (.ref 1), some (.int x1), d2], []) [])) := by
  cases w
  · refine (jev_blk 1 (pc' := if u0 = 0 then 31 else 33) (L' := ([some (.ref 1), some (.int x1), d2], [])) (S' := []) (h' := (jX f g n2 p pa s sa sw (.ref (jpl false)) t, z)) rfl).trans (jev_ite.trans (jite_congr (fun _ => ?_) (fun _ => ?_)))
    · refine (jev_blk 1 (pc' := 32) (L' := ([some (.ref 1), some (.int x1), d2], [])) (S' := [.int 0]) (h' := (jX f g n2 p pa s sa sw (.ref (jpl false)) t, z)) rfl).trans ?_
      exact jev_fin rfl
    · refine (jev_blk 1 (pc' := 34) (L' := ([some (.ref 1), some (.int x1), d2], [])) (S' := [.ref 1]) (h' := (jX f g n2 p pa s sa sw (.ref (jpl false)) t, z)) rfl).trans ?_
      exact jev_callb (nx := 35) (rest := []) rfl
  · refine (jev_blk 1 (pc' := if u0 = 0 then 31 else 33) (L' := ([some (.ref 1), some (.int x1), d2], [])) (S' := []) (h' := (jX f g n2 p pa s sa sw (.ref (jpl true)) t, z)) rfl).trans (jev_ite.trans (jite_congr (fun _ => ?_) (fun _ => ?_)))
    · refine (jev_blk 1 (pc' := 32) (L' := ([some (.ref 1), some (.int x1), d2], [])) (S' := [.int 0]) (h' := (jX f g n2 p pa s sa sw (.ref (jpl true)) t, z)) rfl).trans ?_
      exact jev_fin rfl
    · refine (jev_blk 1 (pc' := 34) (L' := ([some (.ref 1), some (.int x1), d2], [])) (S' := [.ref 1]) (h' := (jX f g n2 p pa s sa sw (.ref (jpl true)) t, z)) rfl).trans ?_
      exact jev_callb (nx := 35) (rest := []) rfl
