-- EQUATIONS: one a block; E_ unfolds, L_ a loop's head
set_option maxRecDepth 20000 in
theorem E_k_step_57 {D : Nat}   {f : Nat → Int32} {g : Nat → Nat → Int32} {n2 : Nat → Nat → Int64} {p : Nat → Nat → Int32} {pa : Nat → Nat → Nat → Int32} {s : Nat → Nat → Int32} {sa : Nat → Nat → Nat → Int32} {sw : Bool} {rp : Value} {t : List jE} {z : Nat × Nat × Nat × (Nat → Int32)}  : jev D 88 57 ([some (.ref 2)], []) [] (jX f g n2 p pa s sa sw rp t, z) = some (.inl (none), (jX f g n2 p pa s sa sw rp t, z)) := by
  refine (jev_blk 1 (pc' := 60) (L' := ([some (.ref 2)], [])) (S' := []) (h' := (jX f g n2 p pa s sa sw rp t, z)) rfl).trans ?_
  exact jev_fin rfl
set_option maxRecDepth 20000 in
theorem E_k_isSign {D : Nat}  {a0 : Int32} {f : Nat → Int32} {g : Nat → Nat → Int32} {n2 : Nat → Nat → Int64} {p : Nat → Nat → Int32} {pa : Nat → Nat → Nat → Int32} {s : Nat → Nat → Int32} {sa : Nat → Nat → Nat → Int32} {sw : Bool} {rp : Value} {t : List jE} {z : Nat × Nat × Nat × (Nat → Int32)}  : K_k_isSign D a0 f g n2 p pa s sa sw rp t z = if (f 11) = 5 then (if (f 12) = a0 then (some (.inl (some (.int 1)), (jX f g n2 p pa s sa sw rp t, z))) else (some (.inl (some (.int 0)), (jX f g n2 p pa s sa sw rp t, z)))) else (some (.inl (some (.int 0)), (jX f g n2 p pa s sa sw rp t, z))) := by
  refine (jev_blk 4 (pc' := if (f 11) = 5 then 4 else 10) (L' := ([some (.ref 2), some (.int a0)], [])) (S' := []) (h' := (jX f g n2 p pa s sa sw rp t, z)) rfl).trans (jev_ite.trans (jite_congr (fun _ => ?_) (fun _ => ?_)))
  · refine (jev_blk 4 (pc' := if (f 12) = a0 then 8 else 10) (L' := ([some (.ref 2), some (.int a0)], [])) (S' := []) (h' := (jX f g n2 p pa s sa sw rp t, z)) rfl).trans (jev_ite.trans (jite_congr (fun _ => ?_) (fun _ => ?_)))
    · refine (jev_blk 2 (pc' := 11) (L' := ([some (.ref 2), some (.int a0)], [])) (S' := [.int 1]) (h' := (jX f g n2 p pa s sa sw rp t, z)) rfl).trans ?_
      exact jev_fin rfl
    · refine (jev_blk 1 (pc' := 11) (L' := ([some (.ref 2), some (.int a0)], [])) (S' := [.int 0]) (h' := (jX f g n2 p pa s sa sw rp t, z)) rfl).trans ?_
      exact jev_fin rfl
  · refine (jev_blk 1 (pc' := 11) (L' := ([some (.ref 2), some (.int a0)], [])) (S' := [.int 0]) (h' := (jX f g n2 p pa s sa sw rp t, z)) rfl).trans ?_
    exact jev_fin rfl
set_option maxRecDepth 20000 in
theorem E_k_isWord {D : Nat}  {a0 : Int32} {f : Nat → Int32} {g : Nat → Nat → Int32} {n2 : Nat → Nat → Int64} {p : Nat → Nat → Int32} {pa : Nat → Nat → Nat → Int32} {s : Nat → Nat → Int32} {sa : Nat → Nat → Nat → Int32} {sw : Bool} {rp : Value} {t : List jE} {z : Nat × Nat × Nat × (Nat → Int32)}  : K_k_isWord D a0 f g n2 p pa s sa sw rp t z = if (f 11) = 4 then (if (f 12) = a0 then (some (.inl (some (.int 1)), (jX f g n2 p pa s sa sw rp t, z))) else (some (.inl (some (.int 0)), (jX f g n2 p pa s sa sw rp t, z)))) else (some (.inl (some (.int 0)), (jX f g n2 p pa s sa sw rp t, z))) := by
  refine (jev_blk 4 (pc' := if (f 11) = 4 then 4 else 10) (L' := ([some (.ref 2), some (.int a0)], [])) (S' := []) (h' := (jX f g n2 p pa s sa sw rp t, z)) rfl).trans (jev_ite.trans (jite_congr (fun _ => ?_) (fun _ => ?_)))
  · refine (jev_blk 4 (pc' := if (f 12) = a0 then 8 else 10) (L' := ([some (.ref 2), some (.int a0)], [])) (S' := []) (h' := (jX f g n2 p pa s sa sw rp t, z)) rfl).trans (jev_ite.trans (jite_congr (fun _ => ?_) (fun _ => ?_)))
    · refine (jev_blk 2 (pc' := 11) (L' := ([some (.ref 2), some (.int a0)], [])) (S' := [.int 1]) (h' := (jX f g n2 p pa s sa sw rp t, z)) rfl).trans ?_
      exact jev_fin rfl
    · refine (jev_blk 1 (pc' := 11) (L' := ([some (.ref 2), some (.int a0)], [])) (S' := [.int 0]) (h' := (jX f g n2 p pa s sa sw rp t, z)) rfl).trans ?_
      exact jev_fin rfl
  · refine (jev_blk 1 (pc' := 11) (L' := ([some (.ref 2), some (.int a0)], [])) (S' := [.int 0]) (h' := (jX f g n2 p pa s sa sw rp t, z)) rfl).trans ?_
    exact jev_fin rfl
set_option maxRecDepth 20000 in
theorem E_k_isLetter {D : Nat}  {a0 : Int32} {f : Nat → Int32} {g : Nat → Nat → Int32} {n2 : Nat → Nat → Int64} {p : Nat → Nat → Int32} {pa : Nat → Nat → Nat → Int32} {s : Nat → Nat → Int32} {sa : Nat → Nat → Nat → Int32} {sw : Bool} {rp : Value} {t : List jE} {z : Nat × Nat × Nat × (Nat → Int32)}  : K_k_isLetter D a0 f g n2 p pa s sa sw rp t z = if a0 < (f 9) then (if jout a0 700 then none else (if (g 0 a0.toNatClampNeg) < 97 then (some (.inl (some (.int 0)), (jX f g n2 p pa s sa sw rp t, z))) else (if jout a0 700 then none else (if 122 < (g 0 a0.toNatClampNeg) then (some (.inl (some (.int 0)), (jX f g n2 p pa s sa sw rp t, z))) else (some (.inl (some (.int 1)), (jX f g n2 p pa s sa sw rp t, z))))))) else (some (.inl (some (.int 0)), (jX f g n2 p pa s sa sw rp t, z))) := by
  refine (jev_blk 4 (pc' := if a0 < (f 9) then 4 else 18) (L' := ([some (.ref 2), some (.int a0)], [])) (S' := []) (h' := (jX f g n2 p pa s sa sw rp t, z)) rfl).trans (jev_ite.trans (jite_congr (fun _ => ?_) (fun _ => ?_)))
  · refine (jev_blk 3 (pc' := 7) (L' := ([some (.ref 2), some (.int a0)], [])) (S' := [.int a0, .ref 3]) (h' := (jX f g n2 p pa s sa sw rp t, z)) rfl).trans ?_
    refine (jev_grd (q := jout a0 700) (pc' := 8) (L' := ([some (.ref 2), some (.int a0)], [])) (S' := [.int (g 0 a0.toNatClampNeg)]) (h' := (jX f g n2 p pa s sa sw rp t, z)) rfl).trans (jite_congr (fun _ => rfl) (fun _ => ?_))
    refine (jev_blk 2 (pc' := if (g 0 a0.toNatClampNeg) < 97 then 18 else 10) (L' := ([some (.ref 2), some (.int a0)], [])) (S' := []) (h' := (jX f g n2 p pa s sa sw rp t, z)) rfl).trans (jev_ite.trans (jite_congr (fun _ => ?_) (fun _ => ?_)))
    · refine (jev_blk 1 (pc' := 19) (L' := ([some (.ref 2), some (.int a0)], [])) (S' := [.int 0]) (h' := (jX f g n2 p pa s sa sw rp t, z)) rfl).trans ?_
      exact jev_fin rfl
    · refine (jev_blk 3 (pc' := 13) (L' := ([some (.ref 2), some (.int a0)], [])) (S' := [.int a0, .ref 3]) (h' := (jX f g n2 p pa s sa sw rp t, z)) rfl).trans ?_
      refine (jev_grd (q := jout a0 700) (pc' := 14) (L' := ([some (.ref 2), some (.int a0)], [])) (S' := [.int (g 0 a0.toNatClampNeg)]) (h' := (jX f g n2 p pa s sa sw rp t, z)) rfl).trans (jite_congr (fun _ => rfl) (fun _ => ?_))
      refine (jev_blk 2 (pc' := if 122 < (g 0 a0.toNatClampNeg) then 18 else 16) (L' := ([some (.ref 2), some (.int a0)], [])) (S' := []) (h' := (jX f g n2 p pa s sa sw rp t, z)) rfl).trans (jev_ite.trans (jite_congr (fun _ => ?_) (fun _ => ?_)))
      · refine (jev_blk 1 (pc' := 19) (L' := ([some (.ref 2), some (.int a0)], [])) (S' := [.int 0]) (h' := (jX f g n2 p pa s sa sw rp t, z)) rfl).trans ?_
        exact jev_fin rfl
      · refine (jev_blk 2 (pc' := 19) (L' := ([some (.ref 2), some (.int a0)], [])) (S' := [.int 1]) (h' := (jX f g n2 p pa s sa sw rp t, z)) rfl).trans ?_
        exact jev_fin rfl
  · refine (jev_blk 1 (pc' := 19) (L' := ([some (.ref 2), some (.int a0)], [])) (S' := [.int 0]) (h' := (jX f g n2 p pa s sa sw rp t, z)) rfl).trans ?_
    exact jev_fin rfl
set_option maxRecDepth 20000 in
theorem E_k_isDigit {D : Nat}  {a0 : Int32} {f : Nat → Int32} {g : Nat → Nat → Int32} {n2 : Nat → Nat → Int64} {p : Nat → Nat → Int32} {pa : Nat → Nat → Nat → Int32} {s : Nat → Nat → Int32} {sa : Nat → Nat → Nat → Int32} {sw : Bool} {rp : Value} {t : List jE} {z : Nat × Nat × Nat × (Nat → Int32)}  : K_k_isDigit D a0 f g n2 p pa s sa sw rp t z = if a0 < (f 9) then (if jout a0 700 then none else (if (g 0 a0.toNatClampNeg) < 48 then (some (.inl (some (.int 0)), (jX f g n2 p pa s sa sw rp t, z))) else (if jout a0 700 then none else (if 57 < (g 0 a0.toNatClampNeg) then (some (.inl (some (.int 0)), (jX f g n2 p pa s sa sw rp t, z))) else (some (.inl (some (.int 1)), (jX f g n2 p pa s sa sw rp t, z))))))) else (some (.inl (some (.int 0)), (jX f g n2 p pa s sa sw rp t, z))) := by
  refine (jev_blk 4 (pc' := if a0 < (f 9) then 4 else 18) (L' := ([some (.ref 2), some (.int a0)], [])) (S' := []) (h' := (jX f g n2 p pa s sa sw rp t, z)) rfl).trans (jev_ite.trans (jite_congr (fun _ => ?_) (fun _ => ?_)))
  · refine (jev_blk 3 (pc' := 7) (L' := ([some (.ref 2), some (.int a0)], [])) (S' := [.int a0, .ref 3]) (h' := (jX f g n2 p pa s sa sw rp t, z)) rfl).trans ?_
    refine (jev_grd (q := jout a0 700) (pc' := 8) (L' := ([some (.ref 2), some (.int a0)], [])) (S' := [.int (g 0 a0.toNatClampNeg)]) (h' := (jX f g n2 p pa s sa sw rp t, z)) rfl).trans (jite_congr (fun _ => rfl) (fun _ => ?_))
    refine (jev_blk 2 (pc' := if (g 0 a0.toNatClampNeg) < 48 then 18 else 10) (L' := ([some (.ref 2), some (.int a0)], [])) (S' := []) (h' := (jX f g n2 p pa s sa sw rp t, z)) rfl).trans (jev_ite.trans (jite_congr (fun _ => ?_) (fun _ => ?_)))
    · refine (jev_blk 1 (pc' := 19) (L' := ([some (.ref 2), some (.int a0)], [])) (S' := [.int 0]) (h' := (jX f g n2 p pa s sa sw rp t, z)) rfl).trans ?_
      exact jev_fin rfl
    · refine (jev_blk 3 (pc' := 13) (L' := ([some (.ref 2), some (.int a0)], [])) (S' := [.int a0, .ref 3]) (h' := (jX f g n2 p pa s sa sw rp t, z)) rfl).trans ?_
      refine (jev_grd (q := jout a0 700) (pc' := 14) (L' := ([some (.ref 2), some (.int a0)], [])) (S' := [.int (g 0 a0.toNatClampNeg)]) (h' := (jX f g n2 p pa s sa sw rp t, z)) rfl).trans (jite_congr (fun _ => rfl) (fun _ => ?_))
      refine (jev_blk 2 (pc' := if 57 < (g 0 a0.toNatClampNeg) then 18 else 16) (L' := ([some (.ref 2), some (.int a0)], [])) (S' := []) (h' := (jX f g n2 p pa s sa sw rp t, z)) rfl).trans (jev_ite.trans (jite_congr (fun _ => ?_) (fun _ => ?_)))
      · refine (jev_blk 1 (pc' := 19) (L' := ([some (.ref 2), some (.int a0)], [])) (S' := [.int 0]) (h' := (jX f g n2 p pa s sa sw rp t, z)) rfl).trans ?_
        exact jev_fin rfl
      · refine (jev_blk 2 (pc' := 19) (L' := ([some (.ref 2), some (.int a0)], [])) (S' := [.int 1]) (h' := (jX f g n2 p pa s sa sw rp t, z)) rfl).trans ?_
        exact jev_fin rfl
  · refine (jev_blk 1 (pc' := 19) (L' := ([some (.ref 2), some (.int a0)], [])) (S' := [.int 0]) (h' := (jX f g n2 p pa s sa sw rp t, z)) rfl).trans ?_
    exact jev_fin rfl
set_option maxRecDepth 20000 in
theorem E_k_readWord {D : Nat}   {f : Nat → Int32} {g : Nat → Nat → Int32} {n2 : Nat → Nat → Int64} {p : Nat → Nat → Int32} {pa : Nat → Nat → Nat → Int32} {s : Nat → Nat → Int32} {sa : Nat → Nat → Nat → Int32} {sw : Bool} {rp : Value} {t : List jE} {z : Nat × Nat × Nat × (Nat → Int32)}  : K_k_readWord D f g n2 p pa s sa sw rp t z = K_k_readWord_4 D 0 0 none f g n2 p pa s sa sw rp t z := by
  exact jev_blk 4 rfl
set_option maxRecDepth 20000 in
theorem L_k_readWord_4 {D : Nat}  {x1 : Int32} {x2 : Int32} {d3 : Option Value} {f : Nat → Int32} {g : Nat → Nat → Int32} {n2 : Nat → Nat → Int64} {p : Nat → Nat → Int32} {pa : Nat → Nat → Nat → Int32} {s : Nat → Nat → Int32} {sa : Nat → Nat → Nat → Int32} {sw : Bool} {rp : Value} {t : List jE} {z : Nat × Nat × Nat × (Nat → Int32)}  : K_k_readWord_4 D x1 x2 d3 f g n2 p pa s sa sw rp t z = if (f 10) < (f 9) then (jbO (K_k_isLetter D (f 10) f g n2 p pa s sa sw rp t z) (jk D 93 13 ([some (.ref 2), some (.int x1), some (.int x2), d3], []) [])) else (K_k_readWord_31 D x1 x2 d3 f g n2 p pa s sa sw rp t z) := by
  refine (jev_blk 5 (pc' := if (f 10) < (f 9) then 9 else 31) (L' := ([some (.ref 2), some (.int x1), some (.int x2), d3], [])) (S' := []) (h' := (jX f g n2 p pa s sa sw rp t, z)) rfl).trans (jev_ite.trans (jite_congr (fun _ => ?_) (fun _ => ?_)))
  · refine (jev_blk 3 (pc' := 12) (L' := ([some (.ref 2), some (.int x1), some (.int x2), d3], [])) (S' := [.int (f 10), .ref 2]) (h' := (jX f g n2 p pa s sa sw rp t, z)) rfl).trans ?_
    exact jev_callb (nx := 13) (rest := []) rfl
  · rfl
set_option maxRecDepth 20000 in
theorem E_k_readWord_31 {D : Nat}  {x1 : Int32} {x2 : Int32} {d3 : Option Value} {f : Nat → Int32} {g : Nat → Nat → Int32} {n2 : Nat → Nat → Int64} {p : Nat → Nat → Int32} {pa : Nat → Nat → Nat → Int32} {s : Nat → Nat → Int32} {sa : Nat → Nat → Nat → Int32} {sw : Bool} {rp : Value} {t : List jE} {z : Nat × Nat × Nat × (Nat → Int32)}  : K_k_readWord_31 D x1 x2 d3 f g n2 p pa s sa sw rp t z = if 6 < x2 then (K_k_readWord_38 D x1 (some (.int x2)) d3 1 f g n2 p pa s sa sw rp t z) else (K_k_readWord_38 D x1 (some (.int x2)) d3 3 f g n2 p pa s sa sw rp t z) := by
  refine (jev_blk 4 (pc' := if 6 < x2 then 35 else 37) (L' := ([some (.ref 2), some (.int x1), some (.int x2), d3], [])) (S' := [.ref 2]) (h' := (jX f g n2 p pa s sa sw rp t, z)) rfl).trans (jev_ite.trans (jite_congr (fun _ => ?_) (fun _ => ?_)))
  · exact jev_blk 2 rfl
  · exact jev_blk 1 rfl
set_option maxRecDepth 20000 in
theorem E_k_readWord_38 {D : Nat}  {x1 : Int32} {d2 : Option Value} {d3 : Option Value} {u0 : Int32} {f : Nat → Int32} {g : Nat → Nat → Int32} {n2 : Nat → Nat → Int64} {p : Nat → Nat → Int32} {pa : Nat → Nat → Nat → Int32} {s : Nat → Nat → Int32} {sa : Nat → Nat → Nat → Int32} {sw : Bool} {rp : Value} {t : List jE} {z : Nat × Nat × Nat × (Nat → Int32)}  : K_k_readWord_38 D x1 d2 d3 u0 f g n2 p pa s sa sw rp t z = K_k_readWord_44 D x1 d2 0 (jup (jup f 11 (u0)) 12 (x1)) g n2 p pa s sa sw rp t z := by
  exact jev_blk 6 rfl
set_option maxRecDepth 20000 in
theorem L_k_readWord_44 {D : Nat}  {x1 : Int32} {d2 : Option Value} {x3 : Int32} {f : Nat → Int32} {g : Nat → Nat → Int32} {n2 : Nat → Nat → Int64} {p : Nat → Nat → Int32} {pa : Nat → Nat → Nat → Int32} {s : Nat → Nat → Int32} {sa : Nat → Nat → Nat → Int32} {sw : Bool} {rp : Value} {t : List jE} {z : Nat × Nat × Nat × (Nat → Int32)}  : K_k_readWord_44 D x1 d2 x3 f g n2 p pa s sa sw rp t z = if x3 < 22 then (if (f 11) = 3 then (if jout x3 22 then none else (if (g 1 x3.toNatClampNeg) = x1 then (K_k_readWord_63 D x1 d2 x3 (jup (jup f 11 (4)) 12 (x3)) g n2 p pa s sa sw rp t z) else (K_k_readWord_63 D x1 d2 x3 f g n2 p pa s sa sw rp t z))) else (some (.inl (none), (jX f g n2 p pa s sa sw rp t, z)))) else (some (.inl (none), (jX f g n2 p pa s sa sw rp t, z))) := by
  refine (jev_blk 3 (pc' := if x3 < 22 then 47 else 65) (L' := ([some (.ref 2), some (.int x1), d2, some (.int x3)], [])) (S' := []) (h' := (jX f g n2 p pa s sa sw rp t, z)) rfl).trans (jev_ite.trans (jite_congr (fun _ => ?_) (fun _ => ?_)))
  · refine (jev_blk 4 (pc' := if (f 11) = 3 then 51 else 65) (L' := ([some (.ref 2), some (.int x1), d2, some (.int x3)], [])) (S' := []) (h' := (jX f g n2 p pa s sa sw rp t, z)) rfl).trans (jev_ite.trans (jite_congr (fun _ => ?_) (fun _ => ?_)))
    · refine (jev_blk 3 (pc' := 54) (L' := ([some (.ref 2), some (.int x1), d2, some (.int x3)], [])) (S' := [.int x3, .ref 4]) (h' := (jX f g n2 p pa s sa sw rp t, z)) rfl).trans ?_
      refine (jev_grd (q := jout x3 22) (pc' := 55) (L' := ([some (.ref 2), some (.int x1), d2, some (.int x3)], [])) (S' := [.int (g 1 x3.toNatClampNeg)]) (h' := (jX f g n2 p pa s sa sw rp t, z)) rfl).trans (jite_congr (fun _ => rfl) (fun _ => ?_))
      refine (jev_blk 2 (pc' := if (g 1 x3.toNatClampNeg) = x1 then 57 else 63) (L' := ([some (.ref 2), some (.int x1), d2, some (.int x3)], [])) (S' := []) (h' := (jX f g n2 p pa s sa sw rp t, z)) rfl).trans (jev_ite.trans (jite_congr (fun _ => ?_) (fun _ => ?_)))
      · exact jev_blk 6 rfl
      · rfl
    · exact jev_fin rfl
  · exact jev_fin rfl
set_option maxRecDepth 20000 in
theorem E_k_readWord_63 {D : Nat}  {x1 : Int32} {d2 : Option Value} {x3 : Int32} {f : Nat → Int32} {g : Nat → Nat → Int32} {n2 : Nat → Nat → Int64} {p : Nat → Nat → Int32} {pa : Nat → Nat → Nat → Int32} {s : Nat → Nat → Int32} {sa : Nat → Nat → Nat → Int32} {sw : Bool} {rp : Value} {t : List jE} {z : Nat × Nat × Nat × (Nat → Int32)}  : K_k_readWord_63 D x1 d2 x3 f g n2 p pa s sa sw rp t z = K_k_readWord_44 D x1 d2 (x3 + 1) f g n2 p pa s sa sw rp t z := by
  exact jev_blk 2 rfl
set_option maxRecDepth 20000 in
theorem E_k_readWord_13 {D : Nat}  {x1 : Int32} {x2 : Int32} {d3 : Option Value} {u0 : Int32} {f : Nat → Int32} {g : Nat → Nat → Int32} {n2 : Nat → Nat → Int64} {p : Nat → Nat → Int32} {pa : Nat → Nat → Nat → Int32} {s : Nat → Nat → Int32} {sa : Nat → Nat → Nat → Int32} {sw : Bool} {rp : Value} {t : List jE} {z : Nat × Nat × Nat × (Nat → Int32)}  : jev D 93 13 ([some (.ref 2), some (.int x1), some (.int x2), d3], []) [.int u0] (jX f g n2 p pa s sa sw rp t, z) = if u0 = 0 then (K_k_readWord_31 D x1 x2 d3 f g n2 p pa s sa sw rp t z) else (if jout (f 10) 700 then none else (jbO (K_k_pack D x1 x2 (g 0 (f 10).toNatClampNeg) f g n2 p pa s sa sw rp t z) (jk D 93 22 ([some (.ref 2), some (.int x1), some (.int x2), d3], []) []))) := by
  refine (jev_blk 1 (pc' := if u0 = 0 then 31 else 14) (L' := ([some (.ref 2), some (.int x1), some (.int x2), d3], [])) (S' := []) (h' := (jX f g n2 p pa s sa sw rp t, z)) rfl).trans (jev_ite.trans (jite_congr (fun _ => ?_) (fun _ => ?_)))
  · rfl
  · refine (jev_blk 6 (pc' := 20) (L' := ([some (.ref 2), some (.int x1), some (.int x2), d3], [])) (S' := [.int (f 10), .ref 3, .int x2, .int x1]) (h' := (jX f g n2 p pa s sa sw rp t, z)) rfl).trans ?_
    refine (jev_grd (q := jout (f 10) 700) (pc' := 21) (L' := ([some (.ref 2), some (.int x1), some (.int x2), d3], [])) (S' := [.int (g 0 (f 10).toNatClampNeg), .int x2, .int x1]) (h' := (jX f g n2 p pa s sa sw rp t, z)) rfl).trans (jite_congr (fun _ => rfl) (fun _ => ?_))
    exact jev_callb (nx := 22) (rest := []) rfl
set_option maxRecDepth 20000 in
theorem E_k_readWord_22 {D : Nat}  {d1 : Option Value} {x2 : Int32} {d3 : Option Value} {u0 : Int32} {f : Nat → Int32} {g : Nat → Nat → Int32} {n2 : Nat → Nat → Int64} {p : Nat → Nat → Int32} {pa : Nat → Nat → Nat → Int32} {s : Nat → Nat → Int32} {sa : Nat → Nat → Nat → Int32} {sw : Bool} {rp : Value} {t : List jE} {z : Nat × Nat × Nat × (Nat → Int32)}  : jev D 93 22 ([some (.ref 2), d1, some (.int x2), d3], []) [.int u0] (jX f g n2 p pa s sa sw rp t, z) = K_k_readWord_4 D u0 (x2 + 1) d3 (jup f 10 (((f 10) + 1))) g n2 p pa s sa sw rp t z := by
  exact jev_blk 9 rfl
set_option maxRecDepth 20000 in
theorem E_k_readNumber {D : Nat}   {f : Nat → Int32} {g : Nat → Nat → Int32} {n2 : Nat → Nat → Int64} {p : Nat → Nat → Int32} {pa : Nat → Nat → Nat → Int32} {s : Nat → Nat → Int32} {sa : Nat → Nat → Nat → Int32} {sw : Bool} {rp : Value} {t : List jE} {z : Nat × Nat × Nat × (Nat → Int32)}  : K_k_readNumber D f g n2 p pa s sa sw rp t z = K_k_readNumber_3 D (jup f 11 (2)) g n2 p pa s sa sw rp t z := by
  exact jev_blk 3 rfl
set_option maxRecDepth 20000 in
theorem L_k_readNumber_3 {D : Nat}   {f : Nat → Int32} {g : Nat → Nat → Int32} {n2 : Nat → Nat → Int64} {p : Nat → Nat → Int32} {pa : Nat → Nat → Nat → Int32} {s : Nat → Nat → Int32} {sa : Nat → Nat → Nat → Int32} {sw : Bool} {rp : Value} {t : List jE} {z : Nat × Nat × Nat × (Nat → Int32)}  : K_k_readNumber_3 D f g n2 p pa s sa sw rp t z = if (f 10) < (f 9) then (jbO (K_k_isDigit D (f 10) f g n2 p pa s sa sw rp t z) (jk D 94 12 ([some (.ref 2)], []) [])) else (some (.inl (none), (jX f g n2 p pa s sa sw rp t, z))) := by
  refine (jev_blk 5 (pc' := if (f 10) < (f 9) then 8 else 36) (L' := ([some (.ref 2)], [])) (S' := []) (h' := (jX f g n2 p pa s sa sw rp t, z)) rfl).trans (jev_ite.trans (jite_congr (fun _ => ?_) (fun _ => ?_)))
  · refine (jev_blk 3 (pc' := 11) (L' := ([some (.ref 2)], [])) (S' := [.int (f 10), .ref 2]) (h' := (jX f g n2 p pa s sa sw rp t, z)) rfl).trans ?_
    exact jev_callb (nx := 12) (rest := []) rfl
  · exact jev_fin rfl
set_option maxRecDepth 20000 in
theorem E_k_readNumber_12 {D : Nat}  {u0 : Int32} {f : Nat → Int32} {g : Nat → Nat → Int32} {n2 : Nat → Nat → Int64} {p : Nat → Nat → Int32} {pa : Nat → Nat → Nat → Int32} {s : Nat → Nat → Int32} {sa : Nat → Nat → Nat → Int32} {sw : Bool} {rp : Value} {t : List jE} {z : Nat × Nat × Nat × (Nat → Int32)}  : jev D 94 12 ([some (.ref 2)], []) [.int u0] (jX f g n2 p pa s sa sw rp t, z) = if u0 = 0 then (some (.inl (none), (jX f g n2 p pa s sa sw rp t, z))) else (if jout (f 10) 700 then none else (K_k_readNumber_3 D (jup (jup f 10 (((f 10) + 1))) 12 ((if ((((f 12) * 10) + (g 0 (f 10).toNatClampNeg)) - 48) < 1000000 then ((((f 12) * 10) + (g 0 (f 10).toNatClampNeg)) - 48) else 1000000))) g n2 p pa s sa sw rp t z)) := by
  refine (jev_blk 1 (pc' := if u0 = 0 then 36 else 13) (L' := ([some (.ref 2)], [])) (S' := []) (h' := (jX f g n2 p pa s sa sw rp t, z)) rfl).trans (jev_ite.trans (jite_congr (fun _ => ?_) (fun _ => ?_)))
  · exact jev_fin rfl
  · refine (jev_blk 10 (pc' := 23) (L' := ([some (.ref 2)], [])) (S' := [.int (f 10), .ref 3, .int ((f 12) * 10), .int 1000000, .ref 2]) (h' := (jX f g n2 p pa s sa sw rp t, z)) rfl).trans ?_
    refine (jev_grd (q := jout (f 10) 700) (pc' := 24) (L' := ([some (.ref 2)], [])) (S' := [.int (g 0 (f 10).toNatClampNeg), .int ((f 12) * 10), .int 1000000, .ref 2]) (h' := (jX f g n2 p pa s sa sw rp t, z)) rfl).trans (jite_congr (fun _ => rfl) (fun _ => ?_))
    refine (jev_blk 3 (pc' := 27) (L' := ([some (.ref 2)], [])) (S' := [.int ((((f 12) * 10) + (g 0 (f 10).toNatClampNeg)) - 48), .int 1000000, .ref 2]) (h' := (jX f g n2 p pa s sa sw rp t, z)) rfl).trans ?_
    refine (jev_prim (a := 8) (As := [.int 1000000, .int ((((f 12) * 10) + (g 0 (f 10).toNatClampNeg)) - 48)]) (nx := 28) (rest := [.ref 2]) rfl (r := some (.int (if ((((f 12) * 10) + (g 0 (f 10).toNatClampNeg)) - 48) < 1000000 then ((((f 12) * 10) + (g 0 (f 10).toNatClampNeg)) - 48) else 1000000))) (h' := (jX f g n2 p pa s sa sw rp t, z)) rfl).trans ?_
    exact jev_blk 8 rfl
set_option maxRecDepth 20000 in
theorem E_k_readSign {D : Nat}   {f : Nat → Int32} {g : Nat → Nat → Int32} {n2 : Nat → Nat → Int64} {p : Nat → Nat → Int32} {pa : Nat → Nat → Nat → Int32} {s : Nat → Nat → Int32} {sa : Nat → Nat → Nat → Int32} {sw : Bool} {rp : Value} {t : List jE} {z : Nat × Nat × Nat × (Nat → Int32)}  : K_k_readSign D f g n2 p pa s sa sw rp t z = if jout (f 10) 700 then none else (if ((f 10) + 1) < (f 9) then (if jout ((f 10) + 1) 700 then none else (K_k_readSign_24 D (g 0 (f 10).toNatClampNeg) none (g 0 ((f 10) + 1).toNatClampNeg) (jup f 10 (((f 10) + 1))) g n2 p pa s sa sw rp t z)) else (K_k_readSign_24 D (g 0 (f 10).toNatClampNeg) none 0 (jup f 10 (((f 10) + 1))) g n2 p pa s sa sw rp t z)) := by
  refine (jev_blk 4 (pc' := 4) (L' := ([some (.ref 2), none, none], [])) (S' := [.int (f 10), .ref 3]) (h' := (jX f g n2 p pa s sa sw rp t, z)) rfl).trans ?_
  refine (jev_grd (q := jout (f 10) 700) (pc' := 5) (L' := ([some (.ref 2), none, none], [])) (S' := [.int (g 0 (f 10).toNatClampNeg)]) (h' := (jX f g n2 p pa s sa sw rp t, z)) rfl).trans (jite_congr (fun _ => rfl) (fun _ => ?_))
  refine (jev_blk 12 (pc' := if ((f 10) + 1) < (f 9) then 17 else 23) (L' := ([some (.ref 2), some (.int (g 0 (f 10).toNatClampNeg)), none], [])) (S' := []) (h' := (jX (jup f 10 (((f 10) + 1))) g n2 p pa s sa sw rp t, z)) rfl).trans (jev_ite.trans (jite_congr (fun _ => ?_) (fun _ => ?_)))
  · refine (jev_blk 4 (pc' := 21) (L' := ([some (.ref 2), some (.int (g 0 (f 10).toNatClampNeg)), none], [])) (S' := [.int ((f 10) + 1), .ref 3]) (h' := (jX (jup f 10 (((f 10) + 1))) g n2 p pa s sa sw rp t, z)) rfl).trans ?_
    refine (jev_grd (q := jout ((f 10) + 1) 700) (pc' := 22) (L' := ([some (.ref 2), some (.int (g 0 (f 10).toNatClampNeg)), none], [])) (S' := [.int (g 0 ((f 10) + 1).toNatClampNeg)]) (h' := (jX (jup f 10 (((f 10) + 1))) g n2 p pa s sa sw rp t, z)) rfl).trans (jite_congr (fun _ => rfl) (fun _ => ?_))
    exact jev_blk 1 rfl
  · exact jev_blk 1 rfl
set_option maxRecDepth 20000 in
theorem E_k_readSign_24 {D : Nat}  {x1 : Int32} {d2 : Option Value} {u0 : Int32} {f : Nat → Int32} {g : Nat → Nat → Int32} {n2 : Nat → Nat → Int64} {p : Nat → Nat → Int32} {pa : Nat → Nat → Nat → Int32} {s : Nat → Nat → Int32} {sa : Nat → Nat → Nat → Int32} {sw : Bool} {rp : Value} {t : List jE} {z : Nat × Nat × Nat × (Nat → Int32)}  : K_k_readSign_24 D x1 d2 u0 f g n2 p pa s sa sw rp t z = jbO (K_k_single D x1 f g n2 p pa s sa sw rp t z) (jk D 95 28 ([some (.ref 2), some (.int x1), some (.int u0)], []) [.ref 2]) := by
  refine (jev_blk 3 (pc' := 27) (L' := ([some (.ref 2), some (.int x1), some (.int u0)], [])) (S' := [.int x1, .ref 2]) (h' := (jX f g n2 p pa s sa sw rp t, z)) rfl).trans ?_
  exact jev_callb (nx := 28) (rest := [.ref 2]) rfl
set_option maxRecDepth 20000 in
theorem E_k_readSign_28 {D : Nat}  {x1 : Int32} {x2 : Int32} {u0 : Int32} {f : Nat → Int32} {g : Nat → Nat → Int32} {n2 : Nat → Nat → Int64} {p : Nat → Nat → Int32} {pa : Nat → Nat → Nat → Int32} {s : Nat → Nat → Int32} {sa : Nat → Nat → Nat → Int32} {sw : Bool} {rp : Value} {t : List jE} {z : Nat × Nat × Nat × (Nat → Int32)}  : jev D 95 28 ([some (.ref 2), some (.int x1), some (.int x2)], []) [.int u0, .ref 2] (jX f g n2 p pa s sa sw rp t, z) = if x1 = 60 then (if x2 = 61 then (K_k_readSign_76 D (some (.int x1)) (some (.int x2)) (jup (jup f 10 (((f 10) + 1))) 12 (6)) g n2 p pa s sa sw rp t z) else (K_k_readSign_45 D x1 x2 (jup f 12 (u0)) g n2 p pa s sa sw rp t z)) else (K_k_readSign_45 D x1 x2 (jup f 12 (u0)) g n2 p pa s sa sw rp t z) := by
  refine (jev_blk 4 (pc' := if x1 = 60 then 32 else 45) (L' := ([some (.ref 2), some (.int x1), some (.int x2)], [])) (S' := []) (h' := (jX (jup f 12 (u0)) g n2 p pa s sa sw rp t, z)) rfl).trans (jev_ite.trans (jite_congr (fun _ => ?_) (fun _ => ?_)))
  · refine (jev_blk 3 (pc' := if x2 = 61 then 35 else 45) (L' := ([some (.ref 2), some (.int x1), some (.int x2)], [])) (S' := []) (h' := (jX (jup f 12 (u0)) g n2 p pa s sa sw rp t, z)) rfl).trans (jev_ite.trans (jite_congr (fun _ => ?_) (fun _ => ?_)))
    · exact jev_blk 10 rfl
    · rfl
  · rfl
set_option maxRecDepth 20000 in
theorem E_k_readSign_76 {D : Nat}  {d1 : Option Value} {d2 : Option Value} {f : Nat → Int32} {g : Nat → Nat → Int32} {n2 : Nat → Nat → Int64} {p : Nat → Nat → Int32} {pa : Nat → Nat → Nat → Int32} {s : Nat → Nat → Int32} {sa : Nat → Nat → Nat → Int32} {sw : Bool} {rp : Value} {t : List jE} {z : Nat × Nat × Nat × (Nat → Int32)}  : K_k_readSign_76 D d1 d2 f g n2 p pa s sa sw rp t z = if (f 12) = (-1) then (K_k_readSign_84 D d1 d2 1 f g n2 p pa s sa sw rp t z) else (K_k_readSign_84 D d1 d2 5 f g n2 p pa s sa sw rp t z) := by
  refine (jev_blk 5 (pc' := if (f 12) = (-1) then 81 else 83) (L' := ([some (.ref 2), d1, d2], [])) (S' := [.ref 2]) (h' := (jX f g n2 p pa s sa sw rp t, z)) rfl).trans (jev_ite.trans (jite_congr (fun _ => ?_) (fun _ => ?_)))
  · exact jev_blk 2 rfl
  · exact jev_blk 1 rfl
set_option maxRecDepth 20000 in
theorem E_k_readSign_45 {D : Nat}  {x1 : Int32} {x2 : Int32} {f : Nat → Int32} {g : Nat → Nat → Int32} {n2 : Nat → Nat → Int64} {p : Nat → Nat → Int32} {pa : Nat → Nat → Nat → Int32} {s : Nat → Nat → Int32} {sa : Nat → Nat → Nat → Int32} {sw : Bool} {rp : Value} {t : List jE} {z : Nat × Nat × Nat × (Nat → Int32)}  : K_k_readSign_45 D x1 x2 f g n2 p pa s sa sw rp t z = if x1 = 60 then (if x2 = 62 then (K_k_readSign_76 D (some (.int x1)) (some (.int x2)) (jup (jup f 10 (((f 10) + 1))) 12 (8)) g n2 p pa s sa sw rp t z) else (K_k_readSign_61 D x1 x2 f g n2 p pa s sa sw rp t z)) else (K_k_readSign_61 D x1 x2 f g n2 p pa s sa sw rp t z) := by
  refine (jev_blk 3 (pc' := if x1 = 60 then 48 else 61) (L' := ([some (.ref 2), some (.int x1), some (.int x2)], [])) (S' := []) (h' := (jX f g n2 p pa s sa sw rp t, z)) rfl).trans (jev_ite.trans (jite_congr (fun _ => ?_) (fun _ => ?_)))
  · refine (jev_blk 3 (pc' := if x2 = 62 then 51 else 61) (L' := ([some (.ref 2), some (.int x1), some (.int x2)], [])) (S' := []) (h' := (jX f g n2 p pa s sa sw rp t, z)) rfl).trans (jev_ite.trans (jite_congr (fun _ => ?_) (fun _ => ?_)))
    · exact jev_blk 10 rfl
    · rfl
  · rfl
set_option maxRecDepth 20000 in
theorem E_k_readSign_84 {D : Nat}  {d1 : Option Value} {d2 : Option Value} {u0 : Int32} {f : Nat → Int32} {g : Nat → Nat → Int32} {n2 : Nat → Nat → Int64} {p : Nat → Nat → Int32} {pa : Nat → Nat → Nat → Int32} {s : Nat → Nat → Int32} {sa : Nat → Nat → Nat → Int32} {sw : Bool} {rp : Value} {t : List jE} {z : Nat × Nat × Nat × (Nat → Int32)}  : K_k_readSign_84 D d1 d2 u0 f g n2 p pa s sa sw rp t z = some (.inl (none), (jX (jup f 11 (u0)) g n2 p pa s sa sw rp t, z)) := by
  refine (jev_blk 1 (pc' := 85) (L' := ([some (.ref 2), d1, d2], [])) (S' := []) (h' := (jX (jup f 11 (u0)) g n2 p pa s sa sw rp t, z)) rfl).trans ?_
  exact jev_fin rfl
set_option maxRecDepth 20000 in
theorem E_k_readSign_61 {D : Nat}  {x1 : Int32} {x2 : Int32} {f : Nat → Int32} {g : Nat → Nat → Int32} {n2 : Nat → Nat → Int64} {p : Nat → Nat → Int32} {pa : Nat → Nat → Nat → Int32} {s : Nat → Nat → Int32} {sa : Nat → Nat → Nat → Int32} {sw : Bool} {rp : Value} {t : List jE} {z : Nat × Nat × Nat × (Nat → Int32)}  : K_k_readSign_61 D x1 x2 f g n2 p pa s sa sw rp t z = if x1 = 62 then (if x2 = 61 then (K_k_readSign_76 D (some (.int x1)) (some (.int x2)) (jup (jup f 10 (((f 10) + 1))) 12 (10)) g n2 p pa s sa sw rp t z) else (K_k_readSign_76 D (some (.int x1)) (some (.int x2)) f g n2 p pa s sa sw rp t z)) else (K_k_readSign_76 D (some (.int x1)) (some (.int x2)) f g n2 p pa s sa sw rp t z) := by
  refine (jev_blk 3 (pc' := if x1 = 62 then 64 else 76) (L' := ([some (.ref 2), some (.int x1), some (.int x2)], [])) (S' := []) (h' := (jX f g n2 p pa s sa sw rp t, z)) rfl).trans (jev_ite.trans (jite_congr (fun _ => ?_) (fun _ => ?_)))
  · refine (jev_blk 3 (pc' := if x2 = 61 then 67 else 76) (L' := ([some (.ref 2), some (.int x1), some (.int x2)], [])) (S' := []) (h' := (jX f g n2 p pa s sa sw rp t, z)) rfl).trans (jev_ite.trans (jite_congr (fun _ => ?_) (fun _ => ?_)))
    · exact jev_blk 9 rfl
    · rfl
  · rfl
set_option maxRecDepth 20000 in
theorem E_k_single {D : Nat}  {a0 : Int32} {f : Nat → Int32} {g : Nat → Nat → Int32} {n2 : Nat → Nat → Int64} {p : Nat → Nat → Int32} {pa : Nat → Nat → Nat → Int32} {s : Nat → Nat → Int32} {sa : Nat → Nat → Nat → Int32} {sw : Bool} {rp : Value} {t : List jE} {z : Nat × Nat × Nat × (Nat → Int32)}  : K_k_single D a0 f g n2 p pa s sa sw rp t z = if a0 = 40 then (some (.inl (some (.int 101)), (jX f g n2 p pa s sa sw rp t, z))) else (if a0 = 41 then (some (.inl (some (.int 102)), (jX f g n2 p pa s sa sw rp t, z))) else (if a0 = 42 then (some (.inl (some (.int 13)), (jX f g n2 p pa s sa sw rp t, z))) else (if a0 = 43 then (some (.inl (some (.int 11)), (jX f g n2 p pa s sa sw rp t, z))) else (if a0 = 44 then (some (.inl (some (.int (-1))), (jX f g n2 p pa s sa sw rp t, z))) else (if a0 = 45 then (some (.inl (some (.int 12)), (jX f g n2 p pa s sa sw rp t, z))) else (if a0 = 46 then (some (.inl (some (.int (-1))), (jX f g n2 p pa s sa sw rp t, z))) else (if a0 = 47 then (some (.inl (some (.int 14)), (jX f g n2 p pa s sa sw rp t, z))) else (if a0 = 48 then (some (.inl (some (.int (-1))), (jX f g n2 p pa s sa sw rp t, z))) else (if a0 = 49 then (some (.inl (some (.int (-1))), (jX f g n2 p pa s sa sw rp t, z))) else (if a0 = 50 then (some (.inl (some (.int (-1))), (jX f g n2 p pa s sa sw rp t, z))) else (if a0 = 51 then (some (.inl (some (.int (-1))), (jX f g n2 p pa s sa sw rp t, z))) else (if a0 = 52 then (some (.inl (some (.int (-1))), (jX f g n2 p pa s sa sw rp t, z))) else (if a0 = 53 then (some (.inl (some (.int (-1))), (jX f g n2 p pa s sa sw rp t, z))) else (if a0 = 54 then (some (.inl (some (.int (-1))), (jX f g n2 p pa s sa sw rp t, z))) else (if a0 = 55 then (some (.inl (some (.int (-1))), (jX f g n2 p pa s sa sw rp t, z))) else (if a0 = 56 then (some (.inl (some (.int (-1))), (jX f g n2 p pa s sa sw rp t, z))) else (if a0 = 57 then (some (.inl (some (.int (-1))), (jX f g n2 p pa s sa sw rp t, z))) else (if a0 = 58 then (some (.inl (some (.int (-1))), (jX f g n2 p pa s sa sw rp t, z))) else (if a0 = 59 then (some (.inl (some (.int 100)), (jX f g n2 p pa s sa sw rp t, z))) else (if a0 = 60 then (some (.inl (some (.int 5)), (jX f g n2 p pa s sa sw rp t, z))) else (if a0 = 61 then (some (.inl (some (.int 7)), (jX f g n2 p pa s sa sw rp t, z))) else (if a0 = 62 then (some (.inl (some (.int 9)), (jX f g n2 p pa s sa sw rp t, z))) else (some (.inl (some (.int (-1))), (jX f g n2 p pa s sa sw rp t, z))))))))))))))))))))))))) := by
  refine (jev_blk 2 (pc' := if a0 = 40 then 4 else if a0 = 41 then 6 else if a0 = 42 then 18 else if a0 = 43 then 14 else if a0 = 44 then 22 else if a0 = 45 then 16 else if a0 = 46 then 22 else if a0 = 47 then 20 else if a0 = 48 then 22 else if a0 = 49 then 22 else if a0 = 50 then 22 else if a0 = 51 then 22 else if a0 = 52 then 22 else if a0 = 53 then 22 else if a0 = 54 then 22 else if a0 = 55 then 22 else if a0 = 56 then 22 else if a0 = 57 then 22 else if a0 = 58 then 22 else if a0 = 59 then 2 else if a0 = 60 then 8 else if a0 = 61 then 10 else if a0 = 62 then 12 else 22) (L' := ([some (.int a0)], [])) (S' := []) (h' := (jX f g n2 p pa s sa sw rp t, z)) rfl).trans ?_
  refine jev_ite.trans (jite_congr (fun _ => ?_) (fun _ => ?_))
  · refine (jev_blk 1 (pc' := 5) (L' := ([some (.int a0)], [])) (S' := [.int 101]) (h' := (jX f g n2 p pa s sa sw rp t, z)) rfl).trans ?_
    exact jev_fin rfl
  · refine jev_ite.trans (jite_congr (fun _ => ?_) (fun _ => ?_))
    · refine (jev_blk 1 (pc' := 7) (L' := ([some (.int a0)], [])) (S' := [.int 102]) (h' := (jX f g n2 p pa s sa sw rp t, z)) rfl).trans ?_
      exact jev_fin rfl
    · refine jev_ite.trans (jite_congr (fun _ => ?_) (fun _ => ?_))
      · refine (jev_blk 1 (pc' := 19) (L' := ([some (.int a0)], [])) (S' := [.int 13]) (h' := (jX f g n2 p pa s sa sw rp t, z)) rfl).trans ?_
        exact jev_fin rfl
      · refine jev_ite.trans (jite_congr (fun _ => ?_) (fun _ => ?_))
        · refine (jev_blk 1 (pc' := 15) (L' := ([some (.int a0)], [])) (S' := [.int 11]) (h' := (jX f g n2 p pa s sa sw rp t, z)) rfl).trans ?_
          exact jev_fin rfl
        · refine jev_ite.trans (jite_congr (fun _ => ?_) (fun _ => ?_))
          · refine (jev_blk 1 (pc' := 23) (L' := ([some (.int a0)], [])) (S' := [.int (-1)]) (h' := (jX f g n2 p pa s sa sw rp t, z)) rfl).trans ?_
            exact jev_fin rfl
          · refine jev_ite.trans (jite_congr (fun _ => ?_) (fun _ => ?_))
            · refine (jev_blk 1 (pc' := 17) (L' := ([some (.int a0)], [])) (S' := [.int 12]) (h' := (jX f g n2 p pa s sa sw rp t, z)) rfl).trans ?_
              exact jev_fin rfl
            · refine jev_ite.trans (jite_congr (fun _ => ?_) (fun _ => ?_))
              · refine (jev_blk 1 (pc' := 23) (L' := ([some (.int a0)], [])) (S' := [.int (-1)]) (h' := (jX f g n2 p pa s sa sw rp t, z)) rfl).trans ?_
                exact jev_fin rfl
              · refine jev_ite.trans (jite_congr (fun _ => ?_) (fun _ => ?_))
                · refine (jev_blk 1 (pc' := 21) (L' := ([some (.int a0)], [])) (S' := [.int 14]) (h' := (jX f g n2 p pa s sa sw rp t, z)) rfl).trans ?_
                  exact jev_fin rfl
                · refine jev_ite.trans (jite_congr (fun _ => ?_) (fun _ => ?_))
                  · refine (jev_blk 1 (pc' := 23) (L' := ([some (.int a0)], [])) (S' := [.int (-1)]) (h' := (jX f g n2 p pa s sa sw rp t, z)) rfl).trans ?_
                    exact jev_fin rfl
                  · refine jev_ite.trans (jite_congr (fun _ => ?_) (fun _ => ?_))
                    · refine (jev_blk 1 (pc' := 23) (L' := ([some (.int a0)], [])) (S' := [.int (-1)]) (h' := (jX f g n2 p pa s sa sw rp t, z)) rfl).trans ?_
                      exact jev_fin rfl
                    · refine jev_ite.trans (jite_congr (fun _ => ?_) (fun _ => ?_))
                      · refine (jev_blk 1 (pc' := 23) (L' := ([some (.int a0)], [])) (S' := [.int (-1)]) (h' := (jX f g n2 p pa s sa sw rp t, z)) rfl).trans ?_
                        exact jev_fin rfl
                      · refine jev_ite.trans (jite_congr (fun _ => ?_) (fun _ => ?_))
                        · refine (jev_blk 1 (pc' := 23) (L' := ([some (.int a0)], [])) (S' := [.int (-1)]) (h' := (jX f g n2 p pa s sa sw rp t, z)) rfl).trans ?_
                          exact jev_fin rfl
                        · refine jev_ite.trans (jite_congr (fun _ => ?_) (fun _ => ?_))
                          · refine (jev_blk 1 (pc' := 23) (L' := ([some (.int a0)], [])) (S' := [.int (-1)]) (h' := (jX f g n2 p pa s sa sw rp t, z)) rfl).trans ?_
                            exact jev_fin rfl
                          · refine jev_ite.trans (jite_congr (fun _ => ?_) (fun _ => ?_))
                            · refine (jev_blk 1 (pc' := 23) (L' := ([some (.int a0)], [])) (S' := [.int (-1)]) (h' := (jX f g n2 p pa s sa sw rp t, z)) rfl).trans ?_
                              exact jev_fin rfl
                            · refine jev_ite.trans (jite_congr (fun _ => ?_) (fun _ => ?_))
                              · refine (jev_blk 1 (pc' := 23) (L' := ([some (.int a0)], [])) (S' := [.int (-1)]) (h' := (jX f g n2 p pa s sa sw rp t, z)) rfl).trans ?_
                                exact jev_fin rfl
                              · refine jev_ite.trans (jite_congr (fun _ => ?_) (fun _ => ?_))
                                · refine (jev_blk 1 (pc' := 23) (L' := ([some (.int a0)], [])) (S' := [.int (-1)]) (h' := (jX f g n2 p pa s sa sw rp t, z)) rfl).trans ?_
                                  exact jev_fin rfl
                                · refine jev_ite.trans (jite_congr (fun _ => ?_) (fun _ => ?_))
                                  · refine (jev_blk 1 (pc' := 23) (L' := ([some (.int a0)], [])) (S' := [.int (-1)]) (h' := (jX f g n2 p pa s sa sw rp t, z)) rfl).trans ?_
                                    exact jev_fin rfl
                                  · refine jev_ite.trans (jite_congr (fun _ => ?_) (fun _ => ?_))
                                    · refine (jev_blk 1 (pc' := 23) (L' := ([some (.int a0)], [])) (S' := [.int (-1)]) (h' := (jX f g n2 p pa s sa sw rp t, z)) rfl).trans ?_
                                      exact jev_fin rfl
                                    · refine jev_ite.trans (jite_congr (fun _ => ?_) (fun _ => ?_))
                                      · refine (jev_blk 1 (pc' := 23) (L' := ([some (.int a0)], [])) (S' := [.int (-1)]) (h' := (jX f g n2 p pa s sa sw rp t, z)) rfl).trans ?_
                                        exact jev_fin rfl
                                      · refine jev_ite.trans (jite_congr (fun _ => ?_) (fun _ => ?_))
                                        · refine (jev_blk 1 (pc' := 3) (L' := ([some (.int a0)], [])) (S' := [.int 100]) (h' := (jX f g n2 p pa s sa sw rp t, z)) rfl).trans ?_
                                          exact jev_fin rfl
                                        · refine jev_ite.trans (jite_congr (fun _ => ?_) (fun _ => ?_))
                                          · refine (jev_blk 1 (pc' := 9) (L' := ([some (.int a0)], [])) (S' := [.int 5]) (h' := (jX f g n2 p pa s sa sw rp t, z)) rfl).trans ?_
                                            exact jev_fin rfl
                                          · refine jev_ite.trans (jite_congr (fun _ => ?_) (fun _ => ?_))
                                            · refine (jev_blk 1 (pc' := 11) (L' := ([some (.int a0)], [])) (S' := [.int 7]) (h' := (jX f g n2 p pa s sa sw rp t, z)) rfl).trans ?_
                                              exact jev_fin rfl
                                            · refine jev_ite.trans (jite_congr (fun _ => ?_) (fun _ => ?_))
                                              · refine (jev_blk 1 (pc' := 13) (L' := ([some (.int a0)], [])) (S' := [.int 9]) (h' := (jX f g n2 p pa s sa sw rp t, z)) rfl).trans ?_
                                                exact jev_fin rfl
                                              · refine (jev_blk 1 (pc' := 23) (L' := ([some (.int a0)], [])) (S' := [.int (-1)]) (h' := (jX f g n2 p pa s sa sw rp t, z)) rfl).trans ?_
                                                exact jev_fin rfl
