-- EQUATIONS: one a block; E_ unfolds, L_ a loop's head
set_option maxRecDepth 20000 in
theorem E_c_law_42 {D : Nat}  {d1 : Option Value} {x2 : Int32} {d3 : Option Value} {u0 : Int32} {f : Nat → Int32} {g : Nat → Nat → Int32} {n2 : Nat → Nat → Int64} {p : Nat → Nat → Int32} {pa : Nat → Nat → Nat → Int32} {s : Nat → Nat → Int32} {sa : Nat → Nat → Nat → Int32} {sw : Bool} {rp : Value} {t : List jE} {z : Nat × Nat × Nat × (Nat → Int32)}  : jev D 110 42 ([some (.ref 0), d1, some (.int x2), d3], []) [.int u0] (jX f g n2 p pa s sa sw rp t, z) = if u0 = 0 then (some (.inl (some (.long (-9223372036854775808))), (jX f g n2 p pa s sa sw rp t, z))) else (jbO (K_h_payWorth D 0 x2 f g n2 p pa s sa sw rp t z) (jk D 110 49 ([some (.ref 0), d1, some (.int x2), d3], []) [])) := by
  cases sw
  · refine (jev_blk 1 (pc' := if u0 = 0 then 50 else 43) (L' := ([some (.ref 0), d1, some (.int x2), d3], [])) (S' := []) (h' := (jX f g n2 p pa s sa false rp t, z)) rfl).trans (jev_ite.trans (jite_congr (fun _ => ?_) (fun _ => ?_)))
    · refine (jev_blk 1 (pc' := 51) (L' := ([some (.ref 0), d1, some (.int x2), d3], [])) (S' := [.long (-9223372036854775808)]) (h' := (jX f g n2 p pa s sa false rp t, z)) rfl).trans ?_
      exact jev_fin rfl
    · refine (jev_blk 5 (pc' := 48) (L' := ([some (.ref 0), d1, some (.int x2), d3], [])) (S' := [.int x2, .ref 49, .ref 43]) (h' := (jX f g n2 p pa s sa false rp t, z)) rfl).trans ?_
      exact jev_callb (nx := 49) (rest := []) rfl
  · refine (jev_blk 1 (pc' := if u0 = 0 then 50 else 43) (L' := ([some (.ref 0), d1, some (.int x2), d3], [])) (S' := []) (h' := (jX f g n2 p pa s sa true rp t, z)) rfl).trans (jev_ite.trans (jite_congr (fun _ => ?_) (fun _ => ?_)))
    · refine (jev_blk 1 (pc' := 51) (L' := ([some (.ref 0), d1, some (.int x2), d3], [])) (S' := [.long (-9223372036854775808)]) (h' := (jX f g n2 p pa s sa true rp t, z)) rfl).trans ?_
      exact jev_fin rfl
    · refine (jev_blk 5 (pc' := 48) (L' := ([some (.ref 0), d1, some (.int x2), d3], [])) (S' := [.int x2, .ref 49, .ref 43]) (h' := (jX f g n2 p pa s sa true rp t, z)) rfl).trans ?_
      exact jev_callb (nx := 49) (rest := []) rfl
set_option maxRecDepth 20000 in
theorem E_c_law_11 {D : Nat}  {x1 : Int32} {x2 : Int32} {x3 : Int32} {u0 : Int32} {f : Nat → Int32} {g : Nat → Nat → Int32} {n2 : Nat → Nat → Int64} {p : Nat → Nat → Int32} {pa : Nat → Nat → Nat → Int32} {s : Nat → Nat → Int32} {sa : Nat → Nat → Nat → Int32} {sw : Bool} {rp : Value} {t : List jE} {z : Nat × Nat × Nat × (Nat → Int32)}  : jev D 110 11 ([some (.ref 0), some (.int x1), some (.int x2), some (.int x3)], []) [.int u0] (jX f g n2 p pa s sa sw rp t, z) = if u0 = 0 then (K_c_law_20 D x1 x2 x3 f g n2 p pa s sa sw rp t z) else (jbO (K_h_seeWorth D 0 x2 x3 f g n2 p pa s sa sw rp t z) (jk D 110 19 ([some (.ref 0), some (.int x1), some (.int x2), some (.int x3)], []) [])) := by
  cases sw
  · refine (jev_blk 1 (pc' := if u0 = 0 then 20 else 12) (L' := ([some (.ref 0), some (.int x1), some (.int x2), some (.int x3)], [])) (S' := []) (h' := (jX f g n2 p pa s sa false rp t, z)) rfl).trans (jev_ite.trans (jite_congr (fun _ => ?_) (fun _ => ?_)))
    · rfl
    · refine (jev_blk 6 (pc' := 18) (L' := ([some (.ref 0), some (.int x1), some (.int x2), some (.int x3)], [])) (S' := [.int x3, .int x2, .ref 49, .ref 43]) (h' := (jX f g n2 p pa s sa false rp t, z)) rfl).trans ?_
      exact jev_callb (nx := 19) (rest := []) rfl
  · refine (jev_blk 1 (pc' := if u0 = 0 then 20 else 12) (L' := ([some (.ref 0), some (.int x1), some (.int x2), some (.int x3)], [])) (S' := []) (h' := (jX f g n2 p pa s sa true rp t, z)) rfl).trans (jev_ite.trans (jite_congr (fun _ => ?_) (fun _ => ?_)))
    · rfl
    · refine (jev_blk 6 (pc' := 18) (L' := ([some (.ref 0), some (.int x1), some (.int x2), some (.int x3)], [])) (S' := [.int x3, .int x2, .ref 49, .ref 43]) (h' := (jX f g n2 p pa s sa true rp t, z)) rfl).trans ?_
      exact jev_callb (nx := 19) (rest := []) rfl
set_option maxRecDepth 20000 in
theorem E_c_law_34 {D : Nat}  {d1 : Option Value} {d2 : Option Value} {d3 : Option Value} {u0 : Int64} {f : Nat → Int32} {g : Nat → Nat → Int32} {n2 : Nat → Nat → Int64} {p : Nat → Nat → Int32} {pa : Nat → Nat → Nat → Int32} {s : Nat → Nat → Int32} {sa : Nat → Nat → Nat → Int32} {sw : Bool} {rp : Value} {t : List jE} {z : Nat × Nat × Nat × (Nat → Int32)}  : jev D 110 34 ([some (.ref 0), d1, d2, d3], []) [.long u0] (jX f g n2 p pa s sa sw rp t, z) = some (.inl (some (.long u0)), (jX f g n2 p pa s sa sw rp t, z)) := by
  cases sw
  · exact jev_fin rfl
  · exact jev_fin rfl
set_option maxRecDepth 20000 in
theorem E_c_law_49 {D : Nat}  {d1 : Option Value} {d2 : Option Value} {d3 : Option Value} {u0 : Int64} {f : Nat → Int32} {g : Nat → Nat → Int32} {n2 : Nat → Nat → Int64} {p : Nat → Nat → Int32} {pa : Nat → Nat → Nat → Int32} {s : Nat → Nat → Int32} {sa : Nat → Nat → Nat → Int32} {sw : Bool} {rp : Value} {t : List jE} {z : Nat × Nat × Nat × (Nat → Int32)}  : jev D 110 49 ([some (.ref 0), d1, d2, d3], []) [.long u0] (jX f g n2 p pa s sa sw rp t, z) = some (.inl (some (.long u0)), (jX f g n2 p pa s sa sw rp t, z)) := by
  cases sw
  · exact jev_fin rfl
  · exact jev_fin rfl
set_option maxRecDepth 20000 in
theorem E_c_law_19 {D : Nat}  {d1 : Option Value} {d2 : Option Value} {d3 : Option Value} {u0 : Int64} {f : Nat → Int32} {g : Nat → Nat → Int32} {n2 : Nat → Nat → Int64} {p : Nat → Nat → Int32} {pa : Nat → Nat → Nat → Int32} {s : Nat → Nat → Int32} {sa : Nat → Nat → Nat → Int32} {sw : Bool} {rp : Value} {t : List jE} {z : Nat × Nat × Nat × (Nat → Int32)}  : jev D 110 19 ([some (.ref 0), d1, d2, d3], []) [.long u0] (jX f g n2 p pa s sa sw rp t, z) = some (.inl (some (.long u0)), (jX f g n2 p pa s sa sw rp t, z)) := by
  cases sw
  · exact jev_fin rfl
  · exact jev_fin rfl
set_option maxRecDepth 20000 in
theorem E_c_flap {D : Nat}  {a0 : Int32} {a1 : Int32} {a2 : Int32} {f : Nat → Int32} {g : Nat → Nat → Int32} {n2 : Nat → Nat → Int64} {p : Nat → Nat → Int32} {pa : Nat → Nat → Nat → Int32} {s : Nat → Nat → Int32} {sa : Nat → Nat → Nat → Int32} {sw : Bool} {rp : Value} {t : List jE} {z : Nat × Nat × Nat × (Nat → Int32)}  : K_c_flap D a0 a1 a2 f g n2 p pa s sa sw rp t z = jbO (K_p_hasScare D sw a0 f g n2 p pa s sa sw rp t z) (jk D 111 4 ([some (.ref 0), some (.int a0), some (.int a1), some (.int a2), none], []) []) := by
  cases sw
  · refine (jev_blk 3 (pc' := 3) (L' := ([some (.ref 0), some (.int a0), some (.int a1), some (.int a2), none], [])) (S' := [.int a0, .ref (jpl false)]) (h' := (jX f g n2 p pa s sa false rp t, z)) rfl).trans ?_
    exact jev_callb (nx := 4) (rest := []) rfl
  · refine (jev_blk 3 (pc' := 3) (L' := ([some (.ref 0), some (.int a0), some (.int a1), some (.int a2), none], [])) (S' := [.int a0, .ref (jpl true)]) (h' := (jX f g n2 p pa s sa true rp t, z)) rfl).trans ?_
    exact jev_callb (nx := 4) (rest := []) rfl
set_option maxRecDepth 20000 in
theorem E_c_flap_4 {D : Nat}  {x1 : Int32} {x2 : Int32} {x3 : Int32} {d4 : Option Value} {u0 : Int32} {f : Nat → Int32} {g : Nat → Nat → Int32} {n2 : Nat → Nat → Int64} {p : Nat → Nat → Int32} {pa : Nat → Nat → Nat → Int32} {s : Nat → Nat → Int32} {sa : Nat → Nat → Nat → Int32} {sw : Bool} {rp : Value} {t : List jE} {z : Nat × Nat × Nat × (Nat → Int32)}  : jev D 111 4 ([some (.ref 0), some (.int x1), some (.int x2), some (.int x3), d4], []) [.int u0] (jX f g n2 p pa s sa sw rp t, z) = if u0 = 0 then (some (.inl (some (.int 0)), (jX f g n2 p pa s sa sw rp t, z))) else (if x2 < 0 then (some (.inl (some (.int 0)), (jX f g n2 p pa s sa sw rp t, z))) else (if x2 < 12 then (if jout x1 6 then none else (if (((sa 0 2 x1.toNatClampNeg) >>> (x2 &&& 31)) &&& 1) = 0 then (K_c_flap_27 D x1 x2 x3 (sa 0 2 x1.toNatClampNeg) 0 f g n2 p pa s sa sw rp t z) else (K_c_flap_27 D x1 x2 x3 (sa 0 2 x1.toNatClampNeg) 1 f g n2 p pa s sa sw rp t z))) else (some (.inl (some (.int 0)), (jX f g n2 p pa s sa sw rp t, z))))) := by
  cases sw
  · refine (jev_blk 1 (pc' := if u0 = 0 then 10 else 5) (L' := ([some (.ref 0), some (.int x1), some (.int x2), some (.int x3), d4], [])) (S' := []) (h' := (jX f g n2 p pa s sa false rp t, z)) rfl).trans (jev_ite.trans (jite_congr (fun _ => ?_) (fun _ => ?_)))
    · refine (jev_blk 1 (pc' := 11) (L' := ([some (.ref 0), some (.int x1), some (.int x2), some (.int x3), d4], [])) (S' := [.int 0]) (h' := (jX f g n2 p pa s sa false rp t, z)) rfl).trans ?_
      exact jev_fin rfl
    · refine (jev_blk 2 (pc' := if x2 < 0 then 10 else 7) (L' := ([some (.ref 0), some (.int x1), some (.int x2), some (.int x3), d4], [])) (S' := []) (h' := (jX f g n2 p pa s sa false rp t, z)) rfl).trans (jev_ite.trans (jite_congr (fun _ => ?_) (fun _ => ?_)))
      · refine (jev_blk 1 (pc' := 11) (L' := ([some (.ref 0), some (.int x1), some (.int x2), some (.int x3), d4], [])) (S' := [.int 0]) (h' := (jX f g n2 p pa s sa false rp t, z)) rfl).trans ?_
        exact jev_fin rfl
      · refine (jev_blk 3 (pc' := if x2 < 12 then 12 else 10) (L' := ([some (.ref 0), some (.int x1), some (.int x2), some (.int x3), d4], [])) (S' := []) (h' := (jX f g n2 p pa s sa false rp t, z)) rfl).trans (jev_ite.trans (jite_congr (fun _ => ?_) (fun _ => ?_)))
        · refine (jev_blk 4 (pc' := 16) (L' := ([some (.ref 0), some (.int x1), some (.int x2), some (.int x3), d4], [])) (S' := [.int x1, .ref 52]) (h' := (jX f g n2 p pa s sa false rp t, z)) rfl).trans ?_
          refine (jev_grd (q := jout x1 6) (pc' := 17) (L' := ([some (.ref 0), some (.int x1), some (.int x2), some (.int x3), d4], [])) (S' := [.int (sa 0 2 x1.toNatClampNeg)]) (h' := (jX f g n2 p pa s sa false rp t, z)) rfl).trans (jite_congr (fun _ => rfl) (fun _ => ?_))
          refine (jev_blk 7 (pc' := if (((sa 0 2 x1.toNatClampNeg) >>> (x2 &&& 31)) &&& 1) = 0 then 26 else 24) (L' := ([some (.ref 0), some (.int x1), some (.int x2), some (.int x3), some (.int (sa 0 2 x1.toNatClampNeg))], [])) (S' := []) (h' := (jX f g n2 p pa s sa false rp t, z)) rfl).trans (jev_ite.trans (jite_congr (fun _ => ?_) (fun _ => ?_)))
          · exact jev_blk 1 rfl
          · exact jev_blk 2 rfl
        · refine (jev_blk 1 (pc' := 11) (L' := ([some (.ref 0), some (.int x1), some (.int x2), some (.int x3), d4], [])) (S' := [.int 0]) (h' := (jX f g n2 p pa s sa false rp t, z)) rfl).trans ?_
          exact jev_fin rfl
  · refine (jev_blk 1 (pc' := if u0 = 0 then 10 else 5) (L' := ([some (.ref 0), some (.int x1), some (.int x2), some (.int x3), d4], [])) (S' := []) (h' := (jX f g n2 p pa s sa true rp t, z)) rfl).trans (jev_ite.trans (jite_congr (fun _ => ?_) (fun _ => ?_)))
    · refine (jev_blk 1 (pc' := 11) (L' := ([some (.ref 0), some (.int x1), some (.int x2), some (.int x3), d4], [])) (S' := [.int 0]) (h' := (jX f g n2 p pa s sa true rp t, z)) rfl).trans ?_
      exact jev_fin rfl
    · refine (jev_blk 2 (pc' := if x2 < 0 then 10 else 7) (L' := ([some (.ref 0), some (.int x1), some (.int x2), some (.int x3), d4], [])) (S' := []) (h' := (jX f g n2 p pa s sa true rp t, z)) rfl).trans (jev_ite.trans (jite_congr (fun _ => ?_) (fun _ => ?_)))
      · refine (jev_blk 1 (pc' := 11) (L' := ([some (.ref 0), some (.int x1), some (.int x2), some (.int x3), d4], [])) (S' := [.int 0]) (h' := (jX f g n2 p pa s sa true rp t, z)) rfl).trans ?_
        exact jev_fin rfl
      · refine (jev_blk 3 (pc' := if x2 < 12 then 12 else 10) (L' := ([some (.ref 0), some (.int x1), some (.int x2), some (.int x3), d4], [])) (S' := []) (h' := (jX f g n2 p pa s sa true rp t, z)) rfl).trans (jev_ite.trans (jite_congr (fun _ => ?_) (fun _ => ?_)))
        · refine (jev_blk 4 (pc' := 16) (L' := ([some (.ref 0), some (.int x1), some (.int x2), some (.int x3), d4], [])) (S' := [.int x1, .ref 52]) (h' := (jX f g n2 p pa s sa true rp t, z)) rfl).trans ?_
          refine (jev_grd (q := jout x1 6) (pc' := 17) (L' := ([some (.ref 0), some (.int x1), some (.int x2), some (.int x3), d4], [])) (S' := [.int (sa 0 2 x1.toNatClampNeg)]) (h' := (jX f g n2 p pa s sa true rp t, z)) rfl).trans (jite_congr (fun _ => rfl) (fun _ => ?_))
          refine (jev_blk 7 (pc' := if (((sa 0 2 x1.toNatClampNeg) >>> (x2 &&& 31)) &&& 1) = 0 then 26 else 24) (L' := ([some (.ref 0), some (.int x1), some (.int x2), some (.int x3), some (.int (sa 0 2 x1.toNatClampNeg))], [])) (S' := []) (h' := (jX f g n2 p pa s sa true rp t, z)) rfl).trans (jev_ite.trans (jite_congr (fun _ => ?_) (fun _ => ?_)))
          · exact jev_blk 1 rfl
          · exact jev_blk 2 rfl
        · refine (jev_blk 1 (pc' := 11) (L' := ([some (.ref 0), some (.int x1), some (.int x2), some (.int x3), d4], [])) (S' := [.int 0]) (h' := (jX f g n2 p pa s sa true rp t, z)) rfl).trans ?_
          exact jev_fin rfl
set_option maxRecDepth 20000 in
theorem E_c_flap_27 {D : Nat}  {x1 : Int32} {x2 : Int32} {x3 : Int32} {x4 : Int32} {u0 : Int32} {f : Nat → Int32} {g : Nat → Nat → Int32} {n2 : Nat → Nat → Int64} {p : Nat → Nat → Int32} {pa : Nat → Nat → Nat → Int32} {s : Nat → Nat → Int32} {sa : Nat → Nat → Nat → Int32} {sw : Bool} {rp : Value} {t : List jE} {z : Nat × Nat × Nat × (Nat → Int32)}  : K_c_flap_27 D x1 x2 x3 x4 u0 f g n2 p pa s sa sw rp t z = if u0 = x3 then (some (.inl (some (.int 0)), (jX f g n2 p pa s sa sw rp t, z))) else (jbO (K_t_add D 0 x1 x4 f g n2 p pa s sa sw rp t z) (jk D 111 37 ([some (.ref 0), some (.int x1), some (.int x2), some (.int x3), some (.int x4)], []) [])) := by
  cases sw
  · refine (jev_blk 2 (pc' := if u0 = x3 then 29 else 31) (L' := ([some (.ref 0), some (.int x1), some (.int x2), some (.int x3), some (.int x4)], [])) (S' := []) (h' := (jX f g n2 p pa s sa false rp t, z)) rfl).trans (jev_ite.trans (jite_congr (fun _ => ?_) (fun _ => ?_)))
    · refine (jev_blk 1 (pc' := 30) (L' := ([some (.ref 0), some (.int x1), some (.int x2), some (.int x3), some (.int x4)], [])) (S' := [.int 0]) (h' := (jX f g n2 p pa s sa false rp t, z)) rfl).trans ?_
      exact jev_fin rfl
    · refine (jev_blk 5 (pc' := 36) (L' := ([some (.ref 0), some (.int x1), some (.int x2), some (.int x3), some (.int x4)], [])) (S' := [.int x4, .int x1, .int 0, .ref 67]) (h' := (jX f g n2 p pa s sa false rp t, z)) rfl).trans ?_
      exact jev_callb (nx := 37) (rest := []) rfl
  · refine (jev_blk 2 (pc' := if u0 = x3 then 29 else 31) (L' := ([some (.ref 0), some (.int x1), some (.int x2), some (.int x3), some (.int x4)], [])) (S' := []) (h' := (jX f g n2 p pa s sa true rp t, z)) rfl).trans (jev_ite.trans (jite_congr (fun _ => ?_) (fun _ => ?_)))
    · refine (jev_blk 1 (pc' := 30) (L' := ([some (.ref 0), some (.int x1), some (.int x2), some (.int x3), some (.int x4)], [])) (S' := [.int 0]) (h' := (jX f g n2 p pa s sa true rp t, z)) rfl).trans ?_
      exact jev_fin rfl
    · refine (jev_blk 5 (pc' := 36) (L' := ([some (.ref 0), some (.int x1), some (.int x2), some (.int x3), some (.int x4)], [])) (S' := [.int x4, .int x1, .int 0, .ref 67]) (h' := (jX f g n2 p pa s sa true rp t, z)) rfl).trans ?_
      exact jev_callb (nx := 37) (rest := []) rfl
set_option maxRecDepth 20000 in
theorem E_c_flap_37 {D : Nat}  {x1 : Int32} {x2 : Int32} {d3 : Option Value} {x4 : Int32} {f : Nat → Int32} {g : Nat → Nat → Int32} {n2 : Nat → Nat → Int64} {p : Nat → Nat → Int32} {pa : Nat → Nat → Nat → Int32} {s : Nat → Nat → Int32} {sa : Nat → Nat → Nat → Int32} {sw : Bool} {rp : Value} {t : List jE} {z : Nat × Nat × Nat × (Nat → Int32)}  : jev D 111 37 ([some (.ref 0), some (.int x1), some (.int x2), d3, some (.int x4)], []) [] (jX f g n2 p pa s sa sw rp t, z) = if jout x1 6 then none else (some (.inl (some (.int 1)), (jX f g n2 p pa s (jup sa 0 (jup (sa 0) 2 ((jup (sa 0 2) (x1.toNatClampNeg) (x4 ^^^ (1 <<< (x2 &&& 31))))))) sw rp t, z))) := by
  cases sw
  · refine (jev_blk 9 (pc' := 46) (L' := ([some (.ref 0), some (.int x1), some (.int x2), d3, some (.int x4)], [])) (S' := [.int (x4 ^^^ (1 <<< (x2 &&& 31))), .int x1, .ref 52]) (h' := (jX f g n2 p pa s sa false rp t, z)) rfl).trans ?_
    refine (jev_grd (q := jout x1 6) (pc' := 47) (L' := ([some (.ref 0), some (.int x1), some (.int x2), d3, some (.int x4)], [])) (S' := []) (h' := (jX f g n2 p pa s (jup sa 0 (jup (sa 0) 2 ((jup (sa 0 2) (x1.toNatClampNeg) (x4 ^^^ (1 <<< (x2 &&& 31))))))) false rp t, z)) rfl).trans (jite_congr (fun _ => rfl) (fun _ => ?_))
    refine (jev_blk 1 (pc' := 48) (L' := ([some (.ref 0), some (.int x1), some (.int x2), d3, some (.int x4)], [])) (S' := [.int 1]) (h' := (jX f g n2 p pa s (jup sa 0 (jup (sa 0) 2 ((jup (sa 0 2) (x1.toNatClampNeg) (x4 ^^^ (1 <<< (x2 &&& 31))))))) false rp t, z)) rfl).trans ?_
    exact jev_fin rfl
  · refine (jev_blk 9 (pc' := 46) (L' := ([some (.ref 0), some (.int x1), some (.int x2), d3, some (.int x4)], [])) (S' := [.int (x4 ^^^ (1 <<< (x2 &&& 31))), .int x1, .ref 52]) (h' := (jX f g n2 p pa s sa true rp t, z)) rfl).trans ?_
    refine (jev_grd (q := jout x1 6) (pc' := 47) (L' := ([some (.ref 0), some (.int x1), some (.int x2), d3, some (.int x4)], [])) (S' := []) (h' := (jX f g n2 p pa s (jup sa 0 (jup (sa 0) 2 ((jup (sa 0 2) (x1.toNatClampNeg) (x4 ^^^ (1 <<< (x2 &&& 31))))))) true rp t, z)) rfl).trans (jite_congr (fun _ => rfl) (fun _ => ?_))
    refine (jev_blk 1 (pc' := 48) (L' := ([some (.ref 0), some (.int x1), some (.int x2), d3, some (.int x4)], [])) (S' := [.int 1]) (h' := (jX f g n2 p pa s (jup sa 0 (jup (sa 0) 2 ((jup (sa 0 2) (x1.toNatClampNeg) (x4 ^^^ (1 <<< (x2 &&& 31))))))) true rp t, z)) rfl).trans ?_
    exact jev_fin rfl
set_option maxRecDepth 20000 in
theorem E_c_strike {D : Nat}  {a0 : Int32} {a1 : Int32} {f : Nat → Int32} {g : Nat → Nat → Int32} {n2 : Nat → Nat → Int64} {p : Nat → Nat → Int32} {pa : Nat → Nat → Nat → Int32} {s : Nat → Nat → Int32} {sa : Nat → Nat → Nat → Int32} {sw : Bool} {rp : Value} {t : List jE} {z : Nat × Nat × Nat × (Nat → Int32)}  : K_c_strike D a0 a1 f g n2 p pa s sa sw rp t z = jbO (K_p_hasScare D sw a0 f g n2 p pa s sa sw rp t z) (jk D 112 4 ([some (.ref 0), some (.int a0), some (.int a1)], []) []) := by
  cases sw
  · refine (jev_blk 3 (pc' := 3) (L' := ([some (.ref 0), some (.int a0), some (.int a1)], [])) (S' := [.int a0, .ref (jpl false)]) (h' := (jX f g n2 p pa s sa false rp t, z)) rfl).trans ?_
    exact jev_callb (nx := 4) (rest := []) rfl
  · refine (jev_blk 3 (pc' := 3) (L' := ([some (.ref 0), some (.int a0), some (.int a1)], [])) (S' := [.int a0, .ref (jpl true)]) (h' := (jX f g n2 p pa s sa true rp t, z)) rfl).trans ?_
    exact jev_callb (nx := 4) (rest := []) rfl
set_option maxRecDepth 20000 in
theorem E_c_strike_4 {D : Nat}  {x1 : Int32} {x2 : Int32} {u0 : Int32} {f : Nat → Int32} {g : Nat → Nat → Int32} {n2 : Nat → Nat → Int64} {p : Nat → Nat → Int32} {pa : Nat → Nat → Nat → Int32} {s : Nat → Nat → Int32} {sa : Nat → Nat → Nat → Int32} {sw : Bool} {rp : Value} {t : List jE} {z : Nat × Nat × Nat × (Nat → Int32)}  : jev D 112 4 ([some (.ref 0), some (.int x1), some (.int x2)], []) [.int u0] (jX f g n2 p pa s sa sw rp t, z) = if u0 = 0 then (some (.inl (some (.int 0)), (jX f g n2 p pa s sa sw rp t, z))) else (jbO (K_s_onStrike D 0 x1 f g n2 p pa s sa sw rp t z) (jk D 112 9 ([some (.ref 0), some (.int x1), some (.int x2)], []) [])) := by
  cases sw
  · refine (jev_blk 1 (pc' := if u0 = 0 then 11 else 5) (L' := ([some (.ref 0), some (.int x1), some (.int x2)], [])) (S' := []) (h' := (jX f g n2 p pa s sa false rp t, z)) rfl).trans (jev_ite.trans (jite_congr (fun _ => ?_) (fun _ => ?_)))
    · refine (jev_blk 1 (pc' := 12) (L' := ([some (.ref 0), some (.int x1), some (.int x2)], [])) (S' := [.int 0]) (h' := (jX f g n2 p pa s sa false rp t, z)) rfl).trans ?_
      exact jev_fin rfl
    · refine (jev_blk 3 (pc' := 8) (L' := ([some (.ref 0), some (.int x1), some (.int x2)], [])) (S' := [.int x1, .ref 49]) (h' := (jX f g n2 p pa s sa false rp t, z)) rfl).trans ?_
      exact jev_callb (nx := 9) (rest := []) rfl
  · refine (jev_blk 1 (pc' := if u0 = 0 then 11 else 5) (L' := ([some (.ref 0), some (.int x1), some (.int x2)], [])) (S' := []) (h' := (jX f g n2 p pa s sa true rp t, z)) rfl).trans (jev_ite.trans (jite_congr (fun _ => ?_) (fun _ => ?_)))
    · refine (jev_blk 1 (pc' := 12) (L' := ([some (.ref 0), some (.int x1), some (.int x2)], [])) (S' := [.int 0]) (h' := (jX f g n2 p pa s sa true rp t, z)) rfl).trans ?_
      exact jev_fin rfl
    · refine (jev_blk 3 (pc' := 8) (L' := ([some (.ref 0), some (.int x1), some (.int x2)], [])) (S' := [.int x1, .ref 49]) (h' := (jX f g n2 p pa s sa true rp t, z)) rfl).trans ?_
      exact jev_callb (nx := 9) (rest := []) rfl
set_option maxRecDepth 20000 in
theorem E_c_strike_9 {D : Nat}  {x1 : Int32} {x2 : Int32} {u0 : Int32} {f : Nat → Int32} {g : Nat → Nat → Int32} {n2 : Nat → Nat → Int64} {p : Nat → Nat → Int32} {pa : Nat → Nat → Nat → Int32} {s : Nat → Nat → Int32} {sa : Nat → Nat → Nat → Int32} {sw : Bool} {rp : Value} {t : List jE} {z : Nat × Nat × Nat × (Nat → Int32)}  : jev D 112 9 ([some (.ref 0), some (.int x1), some (.int x2)], []) [.int u0] (jX f g n2 p pa s sa sw rp t, z) = if u0 = x2 then (some (.inl (some (.int 0)), (jX f g n2 p pa s sa sw rp t, z))) else (jbO (K_t_add D 1 x1 (s 0 2) f g n2 p pa s sa sw rp t z) (jk D 112 21 ([some (.ref 0), some (.int x1), some (.int x2)], []) [])) := by
  cases sw
  · refine (jev_blk 2 (pc' := if u0 = x2 then 11 else 13) (L' := ([some (.ref 0), some (.int x1), some (.int x2)], [])) (S' := []) (h' := (jX f g n2 p pa s sa false rp t, z)) rfl).trans (jev_ite.trans (jite_congr (fun _ => ?_) (fun _ => ?_)))
    · refine (jev_blk 1 (pc' := 12) (L' := ([some (.ref 0), some (.int x1), some (.int x2)], [])) (S' := [.int 0]) (h' := (jX f g n2 p pa s sa false rp t, z)) rfl).trans ?_
      exact jev_fin rfl
    · refine (jev_blk 7 (pc' := 20) (L' := ([some (.ref 0), some (.int x1), some (.int x2)], [])) (S' := [.int (s 0 2), .int x1, .int 1, .ref 67]) (h' := (jX f g n2 p pa s sa false rp t, z)) rfl).trans ?_
      exact jev_callb (nx := 21) (rest := []) rfl
  · refine (jev_blk 2 (pc' := if u0 = x2 then 11 else 13) (L' := ([some (.ref 0), some (.int x1), some (.int x2)], [])) (S' := []) (h' := (jX f g n2 p pa s sa true rp t, z)) rfl).trans (jev_ite.trans (jite_congr (fun _ => ?_) (fun _ => ?_)))
    · refine (jev_blk 1 (pc' := 12) (L' := ([some (.ref 0), some (.int x1), some (.int x2)], [])) (S' := [.int 0]) (h' := (jX f g n2 p pa s sa true rp t, z)) rfl).trans ?_
      exact jev_fin rfl
    · refine (jev_blk 7 (pc' := 20) (L' := ([some (.ref 0), some (.int x1), some (.int x2)], [])) (S' := [.int (s 0 2), .int x1, .int 1, .ref 67]) (h' := (jX f g n2 p pa s sa true rp t, z)) rfl).trans ?_
      exact jev_callb (nx := 21) (rest := []) rfl
set_option maxRecDepth 20000 in
theorem E_c_strike_21 {D : Nat}  {x1 : Int32} {d2 : Option Value} {f : Nat → Int32} {g : Nat → Nat → Int32} {n2 : Nat → Nat → Int64} {p : Nat → Nat → Int32} {pa : Nat → Nat → Nat → Int32} {s : Nat → Nat → Int32} {sa : Nat → Nat → Nat → Int32} {sw : Bool} {rp : Value} {t : List jE} {z : Nat × Nat × Nat × (Nat → Int32)}  : jev D 112 21 ([some (.ref 0), some (.int x1), d2], []) [] (jX f g n2 p pa s sa sw rp t, z) = some (.inl (some (.int 1)), (jX f g n2 p pa (jup s 0 (jup (s 0) 2 (((s 0 2) ^^^ (1 <<< (x1 &&& 31)))))) sa sw rp t, z)) := by
  cases sw
  · refine (jev_blk 10 (pc' := 31) (L' := ([some (.ref 0), some (.int x1), d2], [])) (S' := [.int 1]) (h' := (jX f g n2 p pa (jup s 0 (jup (s 0) 2 (((s 0 2) ^^^ (1 <<< (x1 &&& 31)))))) sa false rp t, z)) rfl).trans ?_
    exact jev_fin rfl
  · refine (jev_blk 10 (pc' := 31) (L' := ([some (.ref 0), some (.int x1), d2], [])) (S' := [.int 1]) (h' := (jX f g n2 p pa (jup s 0 (jup (s 0) 2 (((s 0 2) ^^^ (1 <<< (x1 &&& 31)))))) sa true rp t, z)) rfl).trans ?_
    exact jev_fin rfl
set_option maxRecDepth 20000 in
theorem E_c_hat {D : Nat}  {a0 : Int32} {a1 : Int32} {f : Nat → Int32} {g : Nat → Nat → Int32} {n2 : Nat → Nat → Int64} {p : Nat → Nat → Int32} {pa : Nat → Nat → Nat → Int32} {s : Nat → Nat → Int32} {sa : Nat → Nat → Nat → Int32} {sw : Bool} {rp : Value} {t : List jE} {z : Nat × Nat × Nat × (Nat → Int32)}  : K_c_hat D a0 a1 f g n2 p pa s sa sw rp t z = jbO (K_p_hasScare D sw a0 f g n2 p pa s sa sw rp t z) (jk D 113 4 ([some (.ref 0), some (.int a0), some (.int a1)], []) []) := by
  cases sw
  · refine (jev_blk 3 (pc' := 3) (L' := ([some (.ref 0), some (.int a0), some (.int a1)], [])) (S' := [.int a0, .ref (jpl false)]) (h' := (jX f g n2 p pa s sa false rp t, z)) rfl).trans ?_
    exact jev_callb (nx := 4) (rest := []) rfl
  · refine (jev_blk 3 (pc' := 3) (L' := ([some (.ref 0), some (.int a0), some (.int a1)], [])) (S' := [.int a0, .ref (jpl true)]) (h' := (jX f g n2 p pa s sa true rp t, z)) rfl).trans ?_
    exact jev_callb (nx := 4) (rest := []) rfl
set_option maxRecDepth 20000 in
theorem E_c_hat_4 {D : Nat}  {x1 : Int32} {x2 : Int32} {u0 : Int32} {f : Nat → Int32} {g : Nat → Nat → Int32} {n2 : Nat → Nat → Int64} {p : Nat → Nat → Int32} {pa : Nat → Nat → Nat → Int32} {s : Nat → Nat → Int32} {sa : Nat → Nat → Nat → Int32} {sw : Bool} {rp : Value} {t : List jE} {z : Nat × Nat × Nat × (Nat → Int32)}  : jev D 113 4 ([some (.ref 0), some (.int x1), some (.int x2)], []) [.int u0] (jX f g n2 p pa s sa sw rp t, z) = if u0 = 0 then (some (.inl (some (.int 0)), (jX f g n2 p pa s sa sw rp t, z))) else (if x2 < 0 then (some (.inl (some (.int 0)), (jX f g n2 p pa s sa sw rp t, z))) else (if 9 < x2 then (some (.inl (some (.int 0)), (jX f g n2 p pa s sa sw rp t, z))) else (if jout x1 6 then none else (if (sa 0 3 x1.toNatClampNeg) = x2 then (some (.inl (some (.int 0)), (jX f g n2 p pa s sa sw rp t, z))) else (if jout x1 6 then none else (jbO (K_t_add D 2 x1 (sa 0 3 x1.toNatClampNeg) f g n2 p pa s sa sw rp t z) (jk D 113 29 ([some (.ref 0), some (.int x1), some (.int x2)], []) []))))))) := by
  cases sw
  · refine (jev_blk 1 (pc' := if u0 = 0 then 17 else 5) (L' := ([some (.ref 0), some (.int x1), some (.int x2)], [])) (S' := []) (h' := (jX f g n2 p pa s sa false rp t, z)) rfl).trans (jev_ite.trans (jite_congr (fun _ => ?_) (fun _ => ?_)))
    · refine (jev_blk 1 (pc' := 18) (L' := ([some (.ref 0), some (.int x1), some (.int x2)], [])) (S' := [.int 0]) (h' := (jX f g n2 p pa s sa false rp t, z)) rfl).trans ?_
      exact jev_fin rfl
    · refine (jev_blk 2 (pc' := if x2 < 0 then 17 else 7) (L' := ([some (.ref 0), some (.int x1), some (.int x2)], [])) (S' := []) (h' := (jX f g n2 p pa s sa false rp t, z)) rfl).trans (jev_ite.trans (jite_congr (fun _ => ?_) (fun _ => ?_)))
      · refine (jev_blk 1 (pc' := 18) (L' := ([some (.ref 0), some (.int x1), some (.int x2)], [])) (S' := [.int 0]) (h' := (jX f g n2 p pa s sa false rp t, z)) rfl).trans ?_
        exact jev_fin rfl
      · refine (jev_blk 3 (pc' := if 9 < x2 then 17 else 10) (L' := ([some (.ref 0), some (.int x1), some (.int x2)], [])) (S' := []) (h' := (jX f g n2 p pa s sa false rp t, z)) rfl).trans (jev_ite.trans (jite_congr (fun _ => ?_) (fun _ => ?_)))
        · refine (jev_blk 1 (pc' := 18) (L' := ([some (.ref 0), some (.int x1), some (.int x2)], [])) (S' := [.int 0]) (h' := (jX f g n2 p pa s sa false rp t, z)) rfl).trans ?_
          exact jev_fin rfl
        · refine (jev_blk 4 (pc' := 14) (L' := ([some (.ref 0), some (.int x1), some (.int x2)], [])) (S' := [.int x1, .ref 53]) (h' := (jX f g n2 p pa s sa false rp t, z)) rfl).trans ?_
          refine (jev_grd (q := jout x1 6) (pc' := 15) (L' := ([some (.ref 0), some (.int x1), some (.int x2)], [])) (S' := [.int (sa 0 3 x1.toNatClampNeg)]) (h' := (jX f g n2 p pa s sa false rp t, z)) rfl).trans (jite_congr (fun _ => rfl) (fun _ => ?_))
          refine (jev_blk 2 (pc' := if (sa 0 3 x1.toNatClampNeg) = x2 then 17 else 19) (L' := ([some (.ref 0), some (.int x1), some (.int x2)], [])) (S' := []) (h' := (jX f g n2 p pa s sa false rp t, z)) rfl).trans (jev_ite.trans (jite_congr (fun _ => ?_) (fun _ => ?_)))
          · refine (jev_blk 1 (pc' := 18) (L' := ([some (.ref 0), some (.int x1), some (.int x2)], [])) (S' := [.int 0]) (h' := (jX f g n2 p pa s sa false rp t, z)) rfl).trans ?_
            exact jev_fin rfl
          · refine (jev_blk 8 (pc' := 27) (L' := ([some (.ref 0), some (.int x1), some (.int x2)], [])) (S' := [.int x1, .ref 53, .int x1, .int 2, .ref 67]) (h' := (jX f g n2 p pa s sa false rp t, z)) rfl).trans ?_
            refine (jev_grd (q := jout x1 6) (pc' := 28) (L' := ([some (.ref 0), some (.int x1), some (.int x2)], [])) (S' := [.int (sa 0 3 x1.toNatClampNeg), .int x1, .int 2, .ref 67]) (h' := (jX f g n2 p pa s sa false rp t, z)) rfl).trans (jite_congr (fun _ => rfl) (fun _ => ?_))
            exact jev_callb (nx := 29) (rest := []) rfl
  · refine (jev_blk 1 (pc' := if u0 = 0 then 17 else 5) (L' := ([some (.ref 0), some (.int x1), some (.int x2)], [])) (S' := []) (h' := (jX f g n2 p pa s sa true rp t, z)) rfl).trans (jev_ite.trans (jite_congr (fun _ => ?_) (fun _ => ?_)))
    · refine (jev_blk 1 (pc' := 18) (L' := ([some (.ref 0), some (.int x1), some (.int x2)], [])) (S' := [.int 0]) (h' := (jX f g n2 p pa s sa true rp t, z)) rfl).trans ?_
      exact jev_fin rfl
    · refine (jev_blk 2 (pc' := if x2 < 0 then 17 else 7) (L' := ([some (.ref 0), some (.int x1), some (.int x2)], [])) (S' := []) (h' := (jX f g n2 p pa s sa true rp t, z)) rfl).trans (jev_ite.trans (jite_congr (fun _ => ?_) (fun _ => ?_)))
      · refine (jev_blk 1 (pc' := 18) (L' := ([some (.ref 0), some (.int x1), some (.int x2)], [])) (S' := [.int 0]) (h' := (jX f g n2 p pa s sa true rp t, z)) rfl).trans ?_
        exact jev_fin rfl
      · refine (jev_blk 3 (pc' := if 9 < x2 then 17 else 10) (L' := ([some (.ref 0), some (.int x1), some (.int x2)], [])) (S' := []) (h' := (jX f g n2 p pa s sa true rp t, z)) rfl).trans (jev_ite.trans (jite_congr (fun _ => ?_) (fun _ => ?_)))
        · refine (jev_blk 1 (pc' := 18) (L' := ([some (.ref 0), some (.int x1), some (.int x2)], [])) (S' := [.int 0]) (h' := (jX f g n2 p pa s sa true rp t, z)) rfl).trans ?_
          exact jev_fin rfl
        · refine (jev_blk 4 (pc' := 14) (L' := ([some (.ref 0), some (.int x1), some (.int x2)], [])) (S' := [.int x1, .ref 53]) (h' := (jX f g n2 p pa s sa true rp t, z)) rfl).trans ?_
          refine (jev_grd (q := jout x1 6) (pc' := 15) (L' := ([some (.ref 0), some (.int x1), some (.int x2)], [])) (S' := [.int (sa 0 3 x1.toNatClampNeg)]) (h' := (jX f g n2 p pa s sa true rp t, z)) rfl).trans (jite_congr (fun _ => rfl) (fun _ => ?_))
          refine (jev_blk 2 (pc' := if (sa 0 3 x1.toNatClampNeg) = x2 then 17 else 19) (L' := ([some (.ref 0), some (.int x1), some (.int x2)], [])) (S' := []) (h' := (jX f g n2 p pa s sa true rp t, z)) rfl).trans (jev_ite.trans (jite_congr (fun _ => ?_) (fun _ => ?_)))
          · refine (jev_blk 1 (pc' := 18) (L' := ([some (.ref 0), some (.int x1), some (.int x2)], [])) (S' := [.int 0]) (h' := (jX f g n2 p pa s sa true rp t, z)) rfl).trans ?_
            exact jev_fin rfl
          · refine (jev_blk 8 (pc' := 27) (L' := ([some (.ref 0), some (.int x1), some (.int x2)], [])) (S' := [.int x1, .ref 53, .int x1, .int 2, .ref 67]) (h' := (jX f g n2 p pa s sa true rp t, z)) rfl).trans ?_
            refine (jev_grd (q := jout x1 6) (pc' := 28) (L' := ([some (.ref 0), some (.int x1), some (.int x2)], [])) (S' := [.int (sa 0 3 x1.toNatClampNeg), .int x1, .int 2, .ref 67]) (h' := (jX f g n2 p pa s sa true rp t, z)) rfl).trans (jite_congr (fun _ => rfl) (fun _ => ?_))
            exact jev_callb (nx := 29) (rest := []) rfl
set_option maxRecDepth 20000 in
theorem E_c_hat_29 {D : Nat}  {x1 : Int32} {x2 : Int32} {f : Nat → Int32} {g : Nat → Nat → Int32} {n2 : Nat → Nat → Int64} {p : Nat → Nat → Int32} {pa : Nat → Nat → Nat → Int32} {s : Nat → Nat → Int32} {sa : Nat → Nat → Nat → Int32} {sw : Bool} {rp : Value} {t : List jE} {z : Nat × Nat × Nat × (Nat → Int32)}  : jev D 113 29 ([some (.ref 0), some (.int x1), some (.int x2)], []) [] (jX f g n2 p pa s sa sw rp t, z) = if jout x1 6 then none else (some (.inl (some (.int 1)), (jX f g n2 p pa s (jup sa 0 (jup (sa 0) 3 ((jup (sa 0 3) (x1.toNatClampNeg) x2)))) sw rp t, z))) := by
  cases sw
  · refine (jev_blk 5 (pc' := 34) (L' := ([some (.ref 0), some (.int x1), some (.int x2)], [])) (S' := [.int x2, .int x1, .ref 53]) (h' := (jX f g n2 p pa s sa false rp t, z)) rfl).trans ?_
    refine (jev_grd (q := jout x1 6) (pc' := 35) (L' := ([some (.ref 0), some (.int x1), some (.int x2)], [])) (S' := []) (h' := (jX f g n2 p pa s (jup sa 0 (jup (sa 0) 3 ((jup (sa 0 3) (x1.toNatClampNeg) x2)))) false rp t, z)) rfl).trans (jite_congr (fun _ => rfl) (fun _ => ?_))
    refine (jev_blk 1 (pc' := 36) (L' := ([some (.ref 0), some (.int x1), some (.int x2)], [])) (S' := [.int 1]) (h' := (jX f g n2 p pa s (jup sa 0 (jup (sa 0) 3 ((jup (sa 0 3) (x1.toNatClampNeg) x2)))) false rp t, z)) rfl).trans ?_
    exact jev_fin rfl
  · refine (jev_blk 5 (pc' := 34) (L' := ([some (.ref 0), some (.int x1), some (.int x2)], [])) (S' := [.int x2, .int x1, .ref 53]) (h' := (jX f g n2 p pa s sa true rp t, z)) rfl).trans ?_
    refine (jev_grd (q := jout x1 6) (pc' := 35) (L' := ([some (.ref 0), some (.int x1), some (.int x2)], [])) (S' := []) (h' := (jX f g n2 p pa s (jup sa 0 (jup (sa 0) 3 ((jup (sa 0 3) (x1.toNatClampNeg) x2)))) true rp t, z)) rfl).trans (jite_congr (fun _ => rfl) (fun _ => ?_))
    refine (jev_blk 1 (pc' := 36) (L' := ([some (.ref 0), some (.int x1), some (.int x2)], [])) (S' := [.int 1]) (h' := (jX f g n2 p pa s (jup sa 0 (jup (sa 0) 3 ((jup (sa 0 3) (x1.toNatClampNeg) x2)))) true rp t, z)) rfl).trans ?_
    exact jev_fin rfl
set_option maxRecDepth 20000 in
theorem E_c_go {D : Nat}  {a0 : Int32} {f : Nat → Int32} {g : Nat → Nat → Int32} {n2 : Nat → Nat → Int64} {p : Nat → Nat → Int32} {pa : Nat → Nat → Nat → Int32} {s : Nat → Nat → Int32} {sa : Nat → Nat → Nat → Int32} {sw : Bool} {rp : Value} {t : List jE} {z : Nat × Nat × Nat × (Nat → Int32)}  : K_c_go D a0 f g n2 p pa s sa sw rp t z = if a0 < 0 then (some (.inl (some (.int (-1))), (jX f g n2 p pa s sa sw rp t, z))) else (if 99 < a0 then (some (.inl (some (.int (-1))), (jX f g n2 p pa s sa sw rp t, z))) else (if 999 < (((((s 0 0) * 12) + (s 0 1)) + a0) / 12) then (some (.inl (some (.int (-1))), (jX f g n2 p pa s sa sw rp t, z))) else (if 0 < a0 then (K_c_go_28 D a0 none (jup f 23 (0)) g n2 p pa s sa sw rp t z) else (K_c_go_28 D a0 none f g n2 p pa s sa sw rp t z)))) := by
  cases sw
  · refine (jev_blk 2 (pc' := if a0 < 0 then 20 else 2) (L' := ([some (.ref 0), some (.int a0), none], [])) (S' := []) (h' := (jX f g n2 p pa s sa false rp t, z)) rfl).trans (jev_ite.trans (jite_congr (fun _ => ?_) (fun _ => ?_)))
    · refine (jev_blk 1 (pc' := 21) (L' := ([some (.ref 0), some (.int a0), none], [])) (S' := [.int (-1)]) (h' := (jX f g n2 p pa s sa false rp t, z)) rfl).trans ?_
      exact jev_fin rfl
    · refine (jev_blk 3 (pc' := if 99 < a0 then 20 else 5) (L' := ([some (.ref 0), some (.int a0), none], [])) (S' := []) (h' := (jX f g n2 p pa s sa false rp t, z)) rfl).trans (jev_ite.trans (jite_congr (fun _ => ?_) (fun _ => ?_)))
      · refine (jev_blk 1 (pc' := 21) (L' := ([some (.ref 0), some (.int a0), none], [])) (S' := [.int (-1)]) (h' := (jX f g n2 p pa s sa false rp t, z)) rfl).trans ?_
        exact jev_fin rfl
      · refine (jev_blk 15 (pc' := if 999 < (((((s 0 0) * 12) + (s 0 1)) + a0) / 12) then 20 else 22) (L' := ([some (.ref 0), some (.int a0), none], [])) (S' := []) (h' := (jX f g n2 p pa s sa false rp t, z)) rfl).trans (jev_ite.trans (jite_congr (fun _ => ?_) (fun _ => ?_)))
        · refine (jev_blk 1 (pc' := 21) (L' := ([some (.ref 0), some (.int a0), none], [])) (S' := [.int (-1)]) (h' := (jX f g n2 p pa s sa false rp t, z)) rfl).trans ?_
          exact jev_fin rfl
        · refine (jev_blk 2 (pc' := if 0 < a0 then 24 else 28) (L' := ([some (.ref 0), some (.int a0), none], [])) (S' := []) (h' := (jX f g n2 p pa s sa false rp t, z)) rfl).trans (jev_ite.trans (jite_congr (fun _ => ?_) (fun _ => ?_)))
          · exact jev_blk 4 rfl
          · rfl
  · refine (jev_blk 2 (pc' := if a0 < 0 then 20 else 2) (L' := ([some (.ref 0), some (.int a0), none], [])) (S' := []) (h' := (jX f g n2 p pa s sa true rp t, z)) rfl).trans (jev_ite.trans (jite_congr (fun _ => ?_) (fun _ => ?_)))
    · refine (jev_blk 1 (pc' := 21) (L' := ([some (.ref 0), some (.int a0), none], [])) (S' := [.int (-1)]) (h' := (jX f g n2 p pa s sa true rp t, z)) rfl).trans ?_
      exact jev_fin rfl
    · refine (jev_blk 3 (pc' := if 99 < a0 then 20 else 5) (L' := ([some (.ref 0), some (.int a0), none], [])) (S' := []) (h' := (jX f g n2 p pa s sa true rp t, z)) rfl).trans (jev_ite.trans (jite_congr (fun _ => ?_) (fun _ => ?_)))
      · refine (jev_blk 1 (pc' := 21) (L' := ([some (.ref 0), some (.int a0), none], [])) (S' := [.int (-1)]) (h' := (jX f g n2 p pa s sa true rp t, z)) rfl).trans ?_
        exact jev_fin rfl
      · refine (jev_blk 15 (pc' := if 999 < (((((s 0 0) * 12) + (s 0 1)) + a0) / 12) then 20 else 22) (L' := ([some (.ref 0), some (.int a0), none], [])) (S' := []) (h' := (jX f g n2 p pa s sa true rp t, z)) rfl).trans (jev_ite.trans (jite_congr (fun _ => ?_) (fun _ => ?_)))
        · refine (jev_blk 1 (pc' := 21) (L' := ([some (.ref 0), some (.int a0), none], [])) (S' := [.int (-1)]) (h' := (jX f g n2 p pa s sa true rp t, z)) rfl).trans ?_
          exact jev_fin rfl
        · refine (jev_blk 2 (pc' := if 0 < a0 then 24 else 28) (L' := ([some (.ref 0), some (.int a0), none], [])) (S' := []) (h' := (jX f g n2 p pa s sa true rp t, z)) rfl).trans (jev_ite.trans (jite_congr (fun _ => ?_) (fun _ => ?_)))
          · exact jev_blk 4 rfl
          · rfl
set_option maxRecDepth 20000 in
theorem E_c_go_28 {D : Nat}  {x1 : Int32} {d2 : Option Value} {f : Nat → Int32} {g : Nat → Nat → Int32} {n2 : Nat → Nat → Int64} {p : Nat → Nat → Int32} {pa : Nat → Nat → Nat → Int32} {s : Nat → Nat → Int32} {sa : Nat → Nat → Nat → Int32} {sw : Bool} {rp : Value} {t : List jE} {z : Nat × Nat × Nat × (Nat → Int32)}  : K_c_go_28 D x1 d2 f g n2 p pa s sa sw rp t z = K_c_go_30 D x1 0 f g n2 p pa s sa sw rp t z := by
  cases sw
  · exact jev_blk 2 rfl
  · exact jev_blk 2 rfl
set_option maxRecDepth 20000 in
theorem L_c_go_30 {D : Nat}  {x1 : Int32} {x2 : Int32} {f : Nat → Int32} {g : Nat → Nat → Int32} {n2 : Nat → Nat → Int64} {p : Nat → Nat → Int32} {pa : Nat → Nat → Nat → Int32} {s : Nat → Nat → Int32} {sa : Nat → Nat → Nat → Int32} {sw : Bool} {rp : Value} {t : List jE} {z : Nat × Nat × Nat × (Nat → Int32)}  : K_c_go_30 D x1 x2 f g n2 p pa s sa sw rp t z = if x2 < x1 then (jbO (K_h_pass D 0 f g n2 p pa s sa sw rp t z) (jk D 114 38 ([some (.ref 0), some (.int x1), some (.int x2)], []) [])) else (some (.inl (some (.int (s 0 1))), (jX f g n2 p pa s sa sw rp t, z))) := by
  cases sw
  · refine (jev_blk 3 (pc' := if x2 < x1 then 33 else 40) (L' := ([some (.ref 0), some (.int x1), some (.int x2)], [])) (S' := []) (h' := (jX f g n2 p pa s sa false rp t, z)) rfl).trans (jev_ite.trans (jite_congr (fun _ => ?_) (fun _ => ?_)))
    · refine (jev_blk 4 (pc' := 37) (L' := ([some (.ref 0), some (.int x1), some (.int x2)], [])) (S' := [.ref 49, .ref 43]) (h' := (jX f g n2 p pa s sa false rp t, z)) rfl).trans ?_
      exact jev_callb (nx := 38) (rest := []) rfl
    · refine (jev_blk 3 (pc' := 43) (L' := ([some (.ref 0), some (.int x1), some (.int x2)], [])) (S' := [.int (s 0 1)]) (h' := (jX f g n2 p pa s sa false rp t, z)) rfl).trans ?_
      exact jev_fin rfl
  · refine (jev_blk 3 (pc' := if x2 < x1 then 33 else 40) (L' := ([some (.ref 0), some (.int x1), some (.int x2)], [])) (S' := []) (h' := (jX f g n2 p pa s sa true rp t, z)) rfl).trans (jev_ite.trans (jite_congr (fun _ => ?_) (fun _ => ?_)))
    · refine (jev_blk 4 (pc' := 37) (L' := ([some (.ref 0), some (.int x1), some (.int x2)], [])) (S' := [.ref 49, .ref 43]) (h' := (jX f g n2 p pa s sa true rp t, z)) rfl).trans ?_
      exact jev_callb (nx := 38) (rest := []) rfl
    · refine (jev_blk 3 (pc' := 43) (L' := ([some (.ref 0), some (.int x1), some (.int x2)], [])) (S' := [.int (s 0 1)]) (h' := (jX f g n2 p pa s sa true rp t, z)) rfl).trans ?_
      exact jev_fin rfl
set_option maxRecDepth 20000 in
theorem E_c_go_38 {D : Nat}  {x1 : Int32} {x2 : Int32} {f : Nat → Int32} {g : Nat → Nat → Int32} {n2 : Nat → Nat → Int64} {p : Nat → Nat → Int32} {pa : Nat → Nat → Nat → Int32} {s : Nat → Nat → Int32} {sa : Nat → Nat → Nat → Int32} {sw : Bool} {rp : Value} {t : List jE} {z : Nat × Nat × Nat × (Nat → Int32)}  : jev D 114 38 ([some (.ref 0), some (.int x1), some (.int x2)], []) [] (jX f g n2 p pa s sa sw rp t, z) = K_c_go_30 D x1 (x2 + 1) f g n2 p pa s sa sw rp t z := by
  cases sw
  · exact jev_blk 2 rfl
  · exact jev_blk 2 rfl
set_option maxRecDepth 20000 in
theorem E_c_ahead {D : Nat}  {a0 : Int32} {a1 : Int32} {f : Nat → Int32} {g : Nat → Nat → Int32} {n2 : Nat → Nat → Int64} {p : Nat → Nat → Int32} {pa : Nat → Nat → Nat → Int32} {s : Nat → Nat → Int32} {sa : Nat → Nat → Nat → Int32} {sw : Bool} {rp : Value} {t : List jE} {z : Nat × Nat × Nat × (Nat → Int32)}  : K_c_ahead D a0 a1 f g n2 p pa s sa sw rp t z = if a0 < 1 then (some (.inl (some (.int (-1))), (jX f g n2 p pa s sa sw rp t, z))) else (if 9 < a0 then (some (.inl (some (.int (-1))), (jX f g n2 p pa s sa sw rp t, z))) else (if a1 < 0 then (some (.inl (some (.int (-1))), (jX f g n2 p pa s sa sw rp t, z))) else (if 2 < a1 then (some (.inl (some (.int (-1))), (jX f g n2 p pa s sa sw rp t, z))) else (jbO (K_s_follow20 D f g n2 p pa s sa sw rp t z) (jk D 115 18 ([some (.ref 0), some (.int a0), some (.int a1)], []) []))))) := by
  cases sw
  · refine (jev_blk 3 (pc' := if a0 < 1 then 11 else 3) (L' := ([some (.ref 0), some (.int a0), some (.int a1)], [])) (S' := []) (h' := (jX f g n2 p pa s sa false rp t, z)) rfl).trans (jev_ite.trans (jite_congr (fun _ => ?_) (fun _ => ?_)))
    · refine (jev_blk 1 (pc' := 12) (L' := ([some (.ref 0), some (.int a0), some (.int a1)], [])) (S' := [.int (-1)]) (h' := (jX f g n2 p pa s sa false rp t, z)) rfl).trans ?_
      exact jev_fin rfl
    · refine (jev_blk 3 (pc' := if 9 < a0 then 11 else 6) (L' := ([some (.ref 0), some (.int a0), some (.int a1)], [])) (S' := []) (h' := (jX f g n2 p pa s sa false rp t, z)) rfl).trans (jev_ite.trans (jite_congr (fun _ => ?_) (fun _ => ?_)))
      · refine (jev_blk 1 (pc' := 12) (L' := ([some (.ref 0), some (.int a0), some (.int a1)], [])) (S' := [.int (-1)]) (h' := (jX f g n2 p pa s sa false rp t, z)) rfl).trans ?_
        exact jev_fin rfl
      · refine (jev_blk 2 (pc' := if a1 < 0 then 11 else 8) (L' := ([some (.ref 0), some (.int a0), some (.int a1)], [])) (S' := []) (h' := (jX f g n2 p pa s sa false rp t, z)) rfl).trans (jev_ite.trans (jite_congr (fun _ => ?_) (fun _ => ?_)))
        · refine (jev_blk 1 (pc' := 12) (L' := ([some (.ref 0), some (.int a0), some (.int a1)], [])) (S' := [.int (-1)]) (h' := (jX f g n2 p pa s sa false rp t, z)) rfl).trans ?_
          exact jev_fin rfl
        · refine (jev_blk 3 (pc' := if 2 < a1 then 11 else 13) (L' := ([some (.ref 0), some (.int a0), some (.int a1)], [])) (S' := []) (h' := (jX f g n2 p pa s sa false rp t, z)) rfl).trans (jev_ite.trans (jite_congr (fun _ => ?_) (fun _ => ?_)))
          · refine (jev_blk 1 (pc' := 12) (L' := ([some (.ref 0), some (.int a0), some (.int a1)], [])) (S' := [.int (-1)]) (h' := (jX f g n2 p pa s sa false rp t, z)) rfl).trans ?_
            exact jev_fin rfl
          · refine (jev_blk 4 (pc' := 17) (L' := ([some (.ref 0), some (.int a0), some (.int a1)], [])) (S' := [.ref 49, .ref 61]) (h' := (jX f g n2 p pa s sa false rp t, z)) rfl).trans ?_
            exact jev_callb (nx := 18) (rest := []) rfl
  · refine (jev_blk 3 (pc' := if a0 < 1 then 11 else 3) (L' := ([some (.ref 0), some (.int a0), some (.int a1)], [])) (S' := []) (h' := (jX f g n2 p pa s sa true rp t, z)) rfl).trans (jev_ite.trans (jite_congr (fun _ => ?_) (fun _ => ?_)))
    · refine (jev_blk 1 (pc' := 12) (L' := ([some (.ref 0), some (.int a0), some (.int a1)], [])) (S' := [.int (-1)]) (h' := (jX f g n2 p pa s sa true rp t, z)) rfl).trans ?_
      exact jev_fin rfl
    · refine (jev_blk 3 (pc' := if 9 < a0 then 11 else 6) (L' := ([some (.ref 0), some (.int a0), some (.int a1)], [])) (S' := []) (h' := (jX f g n2 p pa s sa true rp t, z)) rfl).trans (jev_ite.trans (jite_congr (fun _ => ?_) (fun _ => ?_)))
      · refine (jev_blk 1 (pc' := 12) (L' := ([some (.ref 0), some (.int a0), some (.int a1)], [])) (S' := [.int (-1)]) (h' := (jX f g n2 p pa s sa true rp t, z)) rfl).trans ?_
        exact jev_fin rfl
      · refine (jev_blk 2 (pc' := if a1 < 0 then 11 else 8) (L' := ([some (.ref 0), some (.int a0), some (.int a1)], [])) (S' := []) (h' := (jX f g n2 p pa s sa true rp t, z)) rfl).trans (jev_ite.trans (jite_congr (fun _ => ?_) (fun _ => ?_)))
        · refine (jev_blk 1 (pc' := 12) (L' := ([some (.ref 0), some (.int a0), some (.int a1)], [])) (S' := [.int (-1)]) (h' := (jX f g n2 p pa s sa true rp t, z)) rfl).trans ?_
          exact jev_fin rfl
        · refine (jev_blk 3 (pc' := if 2 < a1 then 11 else 13) (L' := ([some (.ref 0), some (.int a0), some (.int a1)], [])) (S' := []) (h' := (jX f g n2 p pa s sa true rp t, z)) rfl).trans (jev_ite.trans (jite_congr (fun _ => ?_) (fun _ => ?_)))
          · refine (jev_blk 1 (pc' := 12) (L' := ([some (.ref 0), some (.int a0), some (.int a1)], [])) (S' := [.int (-1)]) (h' := (jX f g n2 p pa s sa true rp t, z)) rfl).trans ?_
            exact jev_fin rfl
          · refine (jev_blk 4 (pc' := 17) (L' := ([some (.ref 0), some (.int a0), some (.int a1)], [])) (S' := [.ref 49, .ref 61]) (h' := (jX f g n2 p pa s sa true rp t, z)) rfl).trans ?_
            exact jev_callb (nx := 18) (rest := []) rfl
set_option maxRecDepth 20000 in
theorem E_c_ahead_18 {D : Nat}  {x1 : Int32} {x2 : Int32} {f : Nat → Int32} {g : Nat → Nat → Int32} {n2 : Nat → Nat → Int64} {p : Nat → Nat → Int32} {pa : Nat → Nat → Nat → Int32} {s : Nat → Nat → Int32} {sa : Nat → Nat → Nat → Int32} {sw : Bool} {rp : Value} {t : List jE} {z : Nat × Nat × Nat × (Nat → Int32)}  : jev D 115 18 ([some (.ref 0), some (.int x1), some (.int x2)], []) [] (jX f g n2 p pa s sa sw rp t, z) = jbO (K_h_passDays D 2 x1 f g n2 p pa s sa sw rp t z) (jk D 115 24 ([some (.ref 0), some (.int x1), some (.int x2)], []) []) := by
  cases sw
  · refine (jev_blk 5 (pc' := 23) (L' := ([some (.ref 0), some (.int x1), some (.int x2)], [])) (S' := [.int x1, .ref 61, .ref 43]) (h' := (jX f g n2 p pa s sa false rp t, z)) rfl).trans ?_
    exact jev_callb (nx := 24) (rest := []) rfl
  · refine (jev_blk 5 (pc' := 23) (L' := ([some (.ref 0), some (.int x1), some (.int x2)], [])) (S' := [.int x1, .ref 61, .ref 43]) (h' := (jX f g n2 p pa s sa true rp t, z)) rfl).trans ?_
    exact jev_callb (nx := 24) (rest := []) rfl
set_option maxRecDepth 20000 in
theorem E_c_ahead_24 {D : Nat}  {d1 : Option Value} {x2 : Int32} {f : Nat → Int32} {g : Nat → Nat → Int32} {n2 : Nat → Nat → Int64} {p : Nat → Nat → Int32} {pa : Nat → Nat → Nat → Int32} {s : Nat → Nat → Int32} {sa : Nat → Nat → Nat → Int32} {sw : Bool} {rp : Value} {t : List jE} {z : Nat × Nat × Nat × (Nat → Int32)}  : jev D 115 24 ([some (.ref 0), d1, some (.int x2)], []) [] (jX f g n2 p pa s sa sw rp t, z) = if x2 = 0 then (some (.inl (some (.int (s 2 3))), (jX f g n2 p pa s sa sw rp t, z))) else (if x2 = 1 then (some (.inl (some (.int (s 2 4))), (jX f g n2 p pa s sa sw rp t, z))) else (some (.inl (some (.int (s 2 5))), (jX f g n2 p pa s sa sw rp t, z)))) := by
  cases sw
  · refine (jev_blk 2 (pc' := if x2 = 0 then 26 else 30) (L' := ([some (.ref 0), d1, some (.int x2)], [])) (S' := []) (h' := (jX f g n2 p pa s sa false rp t, z)) rfl).trans (jev_ite.trans (jite_congr (fun _ => ?_) (fun _ => ?_)))
    · refine (jev_blk 4 (pc' := 40) (L' := ([some (.ref 0), d1, some (.int x2)], [])) (S' := [.int (s 2 3)]) (h' := (jX f g n2 p pa s sa false rp t, z)) rfl).trans ?_
      exact jev_fin rfl
    · refine (jev_blk 3 (pc' := if x2 = 1 then 33 else 37) (L' := ([some (.ref 0), d1, some (.int x2)], [])) (S' := []) (h' := (jX f g n2 p pa s sa false rp t, z)) rfl).trans (jev_ite.trans (jite_congr (fun _ => ?_) (fun _ => ?_)))
      · refine (jev_blk 4 (pc' := 40) (L' := ([some (.ref 0), d1, some (.int x2)], [])) (S' := [.int (s 2 4)]) (h' := (jX f g n2 p pa s sa false rp t, z)) rfl).trans ?_
        exact jev_fin rfl
      · refine (jev_blk 3 (pc' := 40) (L' := ([some (.ref 0), d1, some (.int x2)], [])) (S' := [.int (s 2 5)]) (h' := (jX f g n2 p pa s sa false rp t, z)) rfl).trans ?_
        exact jev_fin rfl
  · refine (jev_blk 2 (pc' := if x2 = 0 then 26 else 30) (L' := ([some (.ref 0), d1, some (.int x2)], [])) (S' := []) (h' := (jX f g n2 p pa s sa true rp t, z)) rfl).trans (jev_ite.trans (jite_congr (fun _ => ?_) (fun _ => ?_)))
    · refine (jev_blk 4 (pc' := 40) (L' := ([some (.ref 0), d1, some (.int x2)], [])) (S' := [.int (s 2 3)]) (h' := (jX f g n2 p pa s sa true rp t, z)) rfl).trans ?_
      exact jev_fin rfl
    · refine (jev_blk 3 (pc' := if x2 = 1 then 33 else 37) (L' := ([some (.ref 0), d1, some (.int x2)], [])) (S' := []) (h' := (jX f g n2 p pa s sa true rp t, z)) rfl).trans (jev_ite.trans (jite_congr (fun _ => ?_) (fun _ => ?_)))
      · refine (jev_blk 4 (pc' := 40) (L' := ([some (.ref 0), d1, some (.int x2)], [])) (S' := [.int (s 2 4)]) (h' := (jX f g n2 p pa s sa true rp t, z)) rfl).trans ?_
        exact jev_fin rfl
      · refine (jev_blk 3 (pc' := 40) (L' := ([some (.ref 0), d1, some (.int x2)], [])) (S' := [.int (s 2 5)]) (h' := (jX f g n2 p pa s sa true rp t, z)) rfl).trans ?_
        exact jev_fin rfl
set_option maxRecDepth 20000 in
theorem E_c_clash {D : Nat}  {a0 : Int32} {f : Nat → Int32} {g : Nat → Nat → Int32} {n2 : Nat → Nat → Int64} {p : Nat → Nat → Int32} {pa : Nat → Nat → Nat → Int32} {s : Nat → Nat → Int32} {sa : Nat → Nat → Nat → Int32} {sw : Bool} {rp : Value} {t : List jE} {z : Nat × Nat × Nat × (Nat → Int32)}  : K_c_clash D a0 f g n2 p pa s sa sw rp t z = if a0 = 0 then (K_c_clash_7 D a0 none none f g n2 p pa s sa sw rp t z) else (if a0 = 1 then (K_c_clash_7 D a0 none none f g n2 p pa s sa sw rp t z) else (some (.inl (some (.int (-1))), (jX f g n2 p pa s sa sw rp t, z)))) := by
  cases sw
  · refine (jev_blk 2 (pc' := if a0 = 0 then 7 else 2) (L' := ([some (.ref 0), some (.int a0), none, none], [])) (S' := []) (h' := (jX f g n2 p pa s sa false rp t, z)) rfl).trans (jev_ite.trans (jite_congr (fun _ => ?_) (fun _ => ?_)))
    · rfl
    · refine (jev_blk 3 (pc' := if a0 = 1 then 7 else 5) (L' := ([some (.ref 0), some (.int a0), none, none], [])) (S' := []) (h' := (jX f g n2 p pa s sa false rp t, z)) rfl).trans (jev_ite.trans (jite_congr (fun _ => ?_) (fun _ => ?_)))
      · rfl
      · refine (jev_blk 1 (pc' := 6) (L' := ([some (.ref 0), some (.int a0), none, none], [])) (S' := [.int (-1)]) (h' := (jX f g n2 p pa s sa false rp t, z)) rfl).trans ?_
        exact jev_fin rfl
  · refine (jev_blk 2 (pc' := if a0 = 0 then 7 else 2) (L' := ([some (.ref 0), some (.int a0), none, none], [])) (S' := []) (h' := (jX f g n2 p pa s sa true rp t, z)) rfl).trans (jev_ite.trans (jite_congr (fun _ => ?_) (fun _ => ?_)))
    · rfl
    · refine (jev_blk 3 (pc' := if a0 = 1 then 7 else 5) (L' := ([some (.ref 0), some (.int a0), none, none], [])) (S' := []) (h' := (jX f g n2 p pa s sa true rp t, z)) rfl).trans (jev_ite.trans (jite_congr (fun _ => ?_) (fun _ => ?_)))
      · rfl
      · refine (jev_blk 1 (pc' := 6) (L' := ([some (.ref 0), some (.int a0), none, none], [])) (S' := [.int (-1)]) (h' := (jX f g n2 p pa s sa true rp t, z)) rfl).trans ?_
        exact jev_fin rfl
set_option maxRecDepth 20000 in
theorem E_c_clash_7 {D : Nat}  {x1 : Int32} {d2 : Option Value} {d3 : Option Value} {f : Nat → Int32} {g : Nat → Nat → Int32} {n2 : Nat → Nat → Int64} {p : Nat → Nat → Int32} {pa : Nat → Nat → Nat → Int32} {s : Nat → Nat → Int32} {sa : Nat → Nat → Nat → Int32} {sw : Bool} {rp : Value} {t : List jE} {z : Nat × Nat × Nat × (Nat → Int32)}  : K_c_clash_7 D x1 d2 d3 f g n2 p pa s sa sw rp t z = jbO (K_s_follow20 D f g n2 p pa s sa sw rp t z) (jk D 116 12 ([some (.ref 0), some (.int x1), d2, d3], []) []) := by
  cases sw
  · refine (jev_blk 4 (pc' := 11) (L' := ([some (.ref 0), some (.int x1), d2, d3], [])) (S' := [.ref 49, .ref 61]) (h' := (jX f g n2 p pa s sa false rp t, z)) rfl).trans ?_
    exact jev_callb (nx := 12) (rest := []) rfl
  · refine (jev_blk 4 (pc' := 11) (L' := ([some (.ref 0), some (.int x1), d2, d3], [])) (S' := [.ref 49, .ref 61]) (h' := (jX f g n2 p pa s sa true rp t, z)) rfl).trans ?_
    exact jev_callb (nx := 12) (rest := []) rfl
set_option maxRecDepth 20000 in
theorem E_c_clash_12 {D : Nat}  {x1 : Int32} {d2 : Option Value} {d3 : Option Value} {f : Nat → Int32} {g : Nat → Nat → Int32} {n2 : Nat → Nat → Int64} {p : Nat → Nat → Int32} {pa : Nat → Nat → Nat → Int32} {s : Nat → Nat → Int32} {sa : Nat → Nat → Nat → Int32} {sw : Bool} {rp : Value} {t : List jE} {z : Nat × Nat × Nat × (Nat → Int32)}  : jev D 116 12 ([some (.ref 0), some (.int x1), d2, d3], []) [] (jX f g n2 p pa s sa sw rp t, z) = K_c_clash_16 D x1 (s 0 1) d3 f g n2 p pa s sa sw rp t z := by
  cases sw
  · exact jev_blk 4 rfl
  · exact jev_blk 4 rfl
set_option maxRecDepth 20000 in
theorem L_c_clash_16 {D : Nat}  {x1 : Int32} {x2 : Int32} {d3 : Option Value} {f : Nat → Int32} {g : Nat → Nat → Int32} {n2 : Nat → Nat → Int64} {p : Nat → Nat → Int32} {pa : Nat → Nat → Nat → Int32} {s : Nat → Nat → Int32} {sa : Nat → Nat → Nat → Int32} {sw : Bool} {rp : Value} {t : List jE} {z : Nat × Nat × Nat × (Nat → Int32)}  : K_c_clash_16 D x1 x2 d3 f g n2 p pa s sa sw rp t z = if x2 < 12 then (K_c_clash_25 D x1 x2 0 f g n2 p pa (jup s 2 (jup (s 2) 1 (x2))) sa sw rp t z) else (some (.inl (some (.int (-2))), (jX f g n2 p pa s sa sw rp t, z))) := by
  cases sw
  · refine (jev_blk 3 (pc' := if x2 < 12 then 19 else 68) (L' := ([some (.ref 0), some (.int x1), some (.int x2), d3], [])) (S' := []) (h' := (jX f g n2 p pa s sa false rp t, z)) rfl).trans (jev_ite.trans (jite_congr (fun _ => ?_) (fun _ => ?_)))
    · exact jev_blk 6 rfl
    · refine (jev_blk 1 (pc' := 69) (L' := ([some (.ref 0), some (.int x1), some (.int x2), d3], [])) (S' := [.int (-2)]) (h' := (jX f g n2 p pa s sa false rp t, z)) rfl).trans ?_
      exact jev_fin rfl
  · refine (jev_blk 3 (pc' := if x2 < 12 then 19 else 68) (L' := ([some (.ref 0), some (.int x1), some (.int x2), d3], [])) (S' := []) (h' := (jX f g n2 p pa s sa true rp t, z)) rfl).trans (jev_ite.trans (jite_congr (fun _ => ?_) (fun _ => ?_)))
    · exact jev_blk 6 rfl
    · refine (jev_blk 1 (pc' := 69) (L' := ([some (.ref 0), some (.int x1), some (.int x2), d3], [])) (S' := [.int (-2)]) (h' := (jX f g n2 p pa s sa true rp t, z)) rfl).trans ?_
      exact jev_fin rfl
set_option maxRecDepth 20000 in
theorem L_c_clash_25 {D : Nat}  {x1 : Int32} {x2 : Int32} {x3 : Int32} {f : Nat → Int32} {g : Nat → Nat → Int32} {n2 : Nat → Nat → Int64} {p : Nat → Nat → Int32} {pa : Nat → Nat → Nat → Int32} {s : Nat → Nat → Int32} {sa : Nat → Nat → Nat → Int32} {sw : Bool} {rp : Value} {t : List jE} {z : Nat × Nat × Nat × (Nat → Int32)}  : K_c_clash_25 D x1 x2 x3 f g n2 p pa s sa sw rp t z = if x3 < (p (jq sw) 3) then (jbO (K_s_onRota D 2 x3 f g n2 p pa s sa sw rp t z) (jk D 116 34 ([some (.ref 0), some (.int x1), some (.int x2), some (.int x3)], []) [])) else (K_c_clash_16 D x1 (x2 + 1) (some (.int x3)) f g n2 p pa s sa sw rp t z) := by
  cases sw
  · refine (jev_blk 5 (pc' := if x3 < (p (jq false) 3) then 30 else 66) (L' := ([some (.ref 0), some (.int x1), some (.int x2), some (.int x3)], [])) (S' := []) (h' := (jX f g n2 p pa s sa false rp t, z)) rfl).trans (jev_ite.trans (jite_congr (fun _ => ?_) (fun _ => ?_)))
    · refine (jev_blk 3 (pc' := 33) (L' := ([some (.ref 0), some (.int x1), some (.int x2), some (.int x3)], [])) (S' := [.int x3, .ref 61]) (h' := (jX f g n2 p pa s sa false rp t, z)) rfl).trans ?_
      exact jev_callb (nx := 34) (rest := []) rfl
    · exact jev_blk 2 rfl
  · refine (jev_blk 5 (pc' := if x3 < (p (jq true) 3) then 30 else 66) (L' := ([some (.ref 0), some (.int x1), some (.int x2), some (.int x3)], [])) (S' := []) (h' := (jX f g n2 p pa s sa true rp t, z)) rfl).trans (jev_ite.trans (jite_congr (fun _ => ?_) (fun _ => ?_)))
    · refine (jev_blk 3 (pc' := 33) (L' := ([some (.ref 0), some (.int x1), some (.int x2), some (.int x3)], [])) (S' := [.int x3, .ref 61]) (h' := (jX f g n2 p pa s sa true rp t, z)) rfl).trans ?_
      exact jev_callb (nx := 34) (rest := []) rfl
    · exact jev_blk 2 rfl
set_option maxRecDepth 20000 in
theorem E_c_clash_34 {D : Nat}  {x1 : Int32} {x2 : Int32} {x3 : Int32} {u0 : Int32} {f : Nat → Int32} {g : Nat → Nat → Int32} {n2 : Nat → Nat → Int64} {p : Nat → Nat → Int32} {pa : Nat → Nat → Nat → Int32} {s : Nat → Nat → Int32} {sa : Nat → Nat → Nat → Int32} {sw : Bool} {rp : Value} {t : List jE} {z : Nat × Nat × Nat × (Nat → Int32)}  : jev D 116 34 ([some (.ref 0), some (.int x1), some (.int x2), some (.int x3)], []) [.int u0] (jX f g n2 p pa s sa sw rp t, z) = if u0 = 0 then (K_c_clash_64 D x1 x2 x3 f g n2 p pa s sa sw rp t z) else (jbO (K_s_onStrike D 2 x3 f g n2 p pa s sa sw rp t z) (jk D 116 39 ([some (.ref 0), some (.int x1), some (.int x2), some (.int x3)], []) [])) := by
  cases sw
  · refine (jev_blk 1 (pc' := if u0 = 0 then 64 else 35) (L' := ([some (.ref 0), some (.int x1), some (.int x2), some (.int x3)], [])) (S' := []) (h' := (jX f g n2 p pa s sa false rp t, z)) rfl).trans (jev_ite.trans (jite_congr (fun _ => ?_) (fun _ => ?_)))
    · rfl
    · refine (jev_blk 3 (pc' := 38) (L' := ([some (.ref 0), some (.int x1), some (.int x2), some (.int x3)], [])) (S' := [.int x3, .ref 61]) (h' := (jX f g n2 p pa s sa false rp t, z)) rfl).trans ?_
      exact jev_callb (nx := 39) (rest := []) rfl
  · refine (jev_blk 1 (pc' := if u0 = 0 then 64 else 35) (L' := ([some (.ref 0), some (.int x1), some (.int x2), some (.int x3)], [])) (S' := []) (h' := (jX f g n2 p pa s sa true rp t, z)) rfl).trans (jev_ite.trans (jite_congr (fun _ => ?_) (fun _ => ?_)))
    · rfl
    · refine (jev_blk 3 (pc' := 38) (L' := ([some (.ref 0), some (.int x1), some (.int x2), some (.int x3)], [])) (S' := [.int x3, .ref 61]) (h' := (jX f g n2 p pa s sa true rp t, z)) rfl).trans ?_
      exact jev_callb (nx := 39) (rest := []) rfl
set_option maxRecDepth 20000 in
theorem E_c_clash_64 {D : Nat}  {x1 : Int32} {x2 : Int32} {x3 : Int32} {f : Nat → Int32} {g : Nat → Nat → Int32} {n2 : Nat → Nat → Int64} {p : Nat → Nat → Int32} {pa : Nat → Nat → Nat → Int32} {s : Nat → Nat → Int32} {sa : Nat → Nat → Nat → Int32} {sw : Bool} {rp : Value} {t : List jE} {z : Nat × Nat × Nat × (Nat → Int32)}  : K_c_clash_64 D x1 x2 x3 f g n2 p pa s sa sw rp t z = K_c_clash_25 D x1 x2 (x3 + 1) f g n2 p pa s sa sw rp t z := by
  cases sw
  · exact jev_blk 2 rfl
  · exact jev_blk 2 rfl
set_option maxRecDepth 20000 in
theorem E_c_clash_39 {D : Nat}  {x1 : Int32} {x2 : Int32} {x3 : Int32} {u0 : Int32} {f : Nat → Int32} {g : Nat → Nat → Int32} {n2 : Nat → Nat → Int64} {p : Nat → Nat → Int32} {pa : Nat → Nat → Nat → Int32} {s : Nat → Nat → Int32} {sa : Nat → Nat → Nat → Int32} {sw : Bool} {rp : Value} {t : List jE} {z : Nat × Nat × Nat × (Nat → Int32)}  : jev D 116 39 ([some (.ref 0), some (.int x1), some (.int x2), some (.int x3)], []) [.int u0] (jX f g n2 p pa s sa sw rp t, z) = if u0 = 0 then (if jout x3 6 then none else (if (sa 2 4 x3.toNatClampNeg) < (p (jq sw) 6) then (if jout x3 6 then none else (if jout x3 6 then none else (K_c_clash_64 D x1 x2 x3 f g n2 p pa s (jup sa 2 (jup (sa 2) 4 ((jup (sa 2 4) (x3.toNatClampNeg) ((sa 2 4 x3.toNatClampNeg) + 1))))) sw rp t z))) else (if x1 = 0 then (some (.inl (some (.int x2)), (jX f g n2 p pa s sa sw rp t, z))) else (some (.inl (some (.int x3)), (jX f g n2 p pa s sa sw rp t, z)))))) else (K_c_clash_64 D x1 x2 x3 f g n2 p pa s sa sw rp t z) := by
  cases sw
  · refine (jev_blk 1 (pc' := if u0 = 0 then 40 else 64) (L' := ([some (.ref 0), some (.int x1), some (.int x2), some (.int x3)], [])) (S' := []) (h' := (jX f g n2 p pa s sa false rp t, z)) rfl).trans (jev_ite.trans (jite_congr (fun _ => ?_) (fun _ => ?_)))
    · refine (jev_blk 4 (pc' := 44) (L' := ([some (.ref 0), some (.int x1), some (.int x2), some (.int x3)], [])) (S' := [.int x3, .ref 66]) (h' := (jX f g n2 p pa s sa false rp t, z)) rfl).trans ?_
      refine (jev_grd (q := jout x3 6) (pc' := 45) (L' := ([some (.ref 0), some (.int x1), some (.int x2), some (.int x3)], [])) (S' := [.int (sa 2 4 x3.toNatClampNeg)]) (h' := (jX f g n2 p pa s sa false rp t, z)) rfl).trans (jite_congr (fun _ => rfl) (fun _ => ?_))
      refine (jev_blk 4 (pc' := if (sa 2 4 x3.toNatClampNeg) < (p (jq false) 6) then 55 else 49) (L' := ([some (.ref 0), some (.int x1), some (.int x2), some (.int x3)], [])) (S' := []) (h' := (jX f g n2 p pa s sa false rp t, z)) rfl).trans (jev_ite.trans (jite_congr (fun _ => ?_) (fun _ => ?_)))
      · refine (jev_blk 5 (pc' := 60) (L' := ([some (.ref 0), some (.int x1), some (.int x2), some (.int x3)], [])) (S' := [.int x3, .ref 66, .int x3, .ref 66]) (h' := (jX f g n2 p pa s sa false rp t, z)) rfl).trans ?_
        refine (jev_grd (q := jout x3 6) (pc' := 61) (L' := ([some (.ref 0), some (.int x1), some (.int x2), some (.int x3)], [])) (S' := [.int (sa 2 4 x3.toNatClampNeg), .int x3, .ref 66]) (h' := (jX f g n2 p pa s sa false rp t, z)) rfl).trans (jite_congr (fun _ => rfl) (fun _ => ?_))
        refine (jev_blk 2 (pc' := 63) (L' := ([some (.ref 0), some (.int x1), some (.int x2), some (.int x3)], [])) (S' := [.int ((sa 2 4 x3.toNatClampNeg) + 1), .int x3, .ref 66]) (h' := (jX f g n2 p pa s sa false rp t, z)) rfl).trans ?_
        refine (jev_grd (q := jout x3 6) (pc' := 64) (L' := ([some (.ref 0), some (.int x1), some (.int x2), some (.int x3)], [])) (S' := []) (h' := (jX f g n2 p pa s (jup sa 2 (jup (sa 2) 4 ((jup (sa 2 4) (x3.toNatClampNeg) ((sa 2 4 x3.toNatClampNeg) + 1))))) false rp t, z)) rfl).trans (jite_congr (fun _ => rfl) (fun _ => ?_))
        rfl
      · refine (jev_blk 2 (pc' := if x1 = 0 then 51 else 53) (L' := ([some (.ref 0), some (.int x1), some (.int x2), some (.int x3)], [])) (S' := []) (h' := (jX f g n2 p pa s sa false rp t, z)) rfl).trans (jev_ite.trans (jite_congr (fun _ => ?_) (fun _ => ?_)))
        · refine (jev_blk 2 (pc' := 54) (L' := ([some (.ref 0), some (.int x1), some (.int x2), some (.int x3)], [])) (S' := [.int x2]) (h' := (jX f g n2 p pa s sa false rp t, z)) rfl).trans ?_
          exact jev_fin rfl
        · refine (jev_blk 1 (pc' := 54) (L' := ([some (.ref 0), some (.int x1), some (.int x2), some (.int x3)], [])) (S' := [.int x3]) (h' := (jX f g n2 p pa s sa false rp t, z)) rfl).trans ?_
          exact jev_fin rfl
    · rfl
  · refine (jev_blk 1 (pc' := if u0 = 0 then 40 else 64) (L' := ([some (.ref 0), some (.int x1), some (.int x2), some (.int x3)], [])) (S' := []) (h' := (jX f g n2 p pa s sa true rp t, z)) rfl).trans (jev_ite.trans (jite_congr (fun _ => ?_) (fun _ => ?_)))
    · refine (jev_blk 4 (pc' := 44) (L' := ([some (.ref 0), some (.int x1), some (.int x2), some (.int x3)], [])) (S' := [.int x3, .ref 66]) (h' := (jX f g n2 p pa s sa true rp t, z)) rfl).trans ?_
      refine (jev_grd (q := jout x3 6) (pc' := 45) (L' := ([some (.ref 0), some (.int x1), some (.int x2), some (.int x3)], [])) (S' := [.int (sa 2 4 x3.toNatClampNeg)]) (h' := (jX f g n2 p pa s sa true rp t, z)) rfl).trans (jite_congr (fun _ => rfl) (fun _ => ?_))
      refine (jev_blk 4 (pc' := if (sa 2 4 x3.toNatClampNeg) < (p (jq true) 6) then 55 else 49) (L' := ([some (.ref 0), some (.int x1), some (.int x2), some (.int x3)], [])) (S' := []) (h' := (jX f g n2 p pa s sa true rp t, z)) rfl).trans (jev_ite.trans (jite_congr (fun _ => ?_) (fun _ => ?_)))
      · refine (jev_blk 5 (pc' := 60) (L' := ([some (.ref 0), some (.int x1), some (.int x2), some (.int x3)], [])) (S' := [.int x3, .ref 66, .int x3, .ref 66]) (h' := (jX f g n2 p pa s sa true rp t, z)) rfl).trans ?_
        refine (jev_grd (q := jout x3 6) (pc' := 61) (L' := ([some (.ref 0), some (.int x1), some (.int x2), some (.int x3)], [])) (S' := [.int (sa 2 4 x3.toNatClampNeg), .int x3, .ref 66]) (h' := (jX f g n2 p pa s sa true rp t, z)) rfl).trans (jite_congr (fun _ => rfl) (fun _ => ?_))
        refine (jev_blk 2 (pc' := 63) (L' := ([some (.ref 0), some (.int x1), some (.int x2), some (.int x3)], [])) (S' := [.int ((sa 2 4 x3.toNatClampNeg) + 1), .int x3, .ref 66]) (h' := (jX f g n2 p pa s sa true rp t, z)) rfl).trans ?_
        refine (jev_grd (q := jout x3 6) (pc' := 64) (L' := ([some (.ref 0), some (.int x1), some (.int x2), some (.int x3)], [])) (S' := []) (h' := (jX f g n2 p pa s (jup sa 2 (jup (sa 2) 4 ((jup (sa 2 4) (x3.toNatClampNeg) ((sa 2 4 x3.toNatClampNeg) + 1))))) true rp t, z)) rfl).trans (jite_congr (fun _ => rfl) (fun _ => ?_))
        rfl
      · refine (jev_blk 2 (pc' := if x1 = 0 then 51 else 53) (L' := ([some (.ref 0), some (.int x1), some (.int x2), some (.int x3)], [])) (S' := []) (h' := (jX f g n2 p pa s sa true rp t, z)) rfl).trans (jev_ite.trans (jite_congr (fun _ => ?_) (fun _ => ?_)))
        · refine (jev_blk 2 (pc' := 54) (L' := ([some (.ref 0), some (.int x1), some (.int x2), some (.int x3)], [])) (S' := [.int x2]) (h' := (jX f g n2 p pa s sa true rp t, z)) rfl).trans ?_
          exact jev_fin rfl
        · refine (jev_blk 1 (pc' := 54) (L' := ([some (.ref 0), some (.int x1), some (.int x2), some (.int x3)], [])) (S' := [.int x3]) (h' := (jX f g n2 p pa s sa true rp t, z)) rfl).trans ?_
          exact jev_fin rfl
    · rfl
set_option maxRecDepth 20000 in
theorem E_c_keeping {D : Nat}  {a0 : Int32} {a1 : Int32} {a2 : Int32} {f : Nat → Int32} {g : Nat → Nat → Int32} {n2 : Nat → Nat → Int64} {p : Nat → Nat → Int32} {pa : Nat → Nat → Nat → Int32} {s : Nat → Nat → Int32} {sa : Nat → Nat → Nat → Int32} {sw : Bool} {rp : Value} {t : List jE} {z : Nat × Nat × Nat × (Nat → Int32)}  : K_c_keeping D a0 a1 a2 f g n2 p pa s sa sw rp t z = jbO (K_p_hasScare D sw a0 f g n2 p pa s sa sw rp t z) (jk D 117 4 ([some (.ref 0), some (.int a0), some (.int a1), some (.int a2), none, none, none, none], []) []) := by
  cases sw
  · refine (jev_blk 3 (pc' := 3) (L' := ([some (.ref 0), some (.int a0), some (.int a1), some (.int a2), none, none, none, none], [])) (S' := [.int a0, .ref (jpl false)]) (h' := (jX f g n2 p pa s sa false rp t, z)) rfl).trans ?_
    exact jev_callb (nx := 4) (rest := []) rfl
  · refine (jev_blk 3 (pc' := 3) (L' := ([some (.ref 0), some (.int a0), some (.int a1), some (.int a2), none, none, none, none], [])) (S' := [.int a0, .ref (jpl true)]) (h' := (jX f g n2 p pa s sa true rp t, z)) rfl).trans ?_
    exact jev_callb (nx := 4) (rest := []) rfl
set_option maxRecDepth 20000 in
theorem E_c_keeping_4 {D : Nat}  {x1 : Int32} {x2 : Int32} {x3 : Int32} {d4 : Option Value} {d5 : Option Value} {d6 : Option Value} {d7 : Option Value} {u0 : Int32} {f : Nat → Int32} {g : Nat → Nat → Int32} {n2 : Nat → Nat → Int64} {p : Nat → Nat → Int32} {pa : Nat → Nat → Nat → Int32} {s : Nat → Nat → Int32} {sa : Nat → Nat → Nat → Int32} {sw : Bool} {rp : Value} {t : List jE} {z : Nat × Nat × Nat × (Nat → Int32)}  : jev D 117 4 ([some (.ref 0), some (.int x1), some (.int x2), some (.int x3), d4, d5, d6, d7], []) [.int u0] (jX f g n2 p pa s sa sw rp t, z) = if u0 = 0 then (some (.inl (some (.int (-1))), (jX f g n2 p pa s sa sw rp t, z))) else (if x2 < 1 then (some (.inl (some (.int (-1))), (jX f g n2 p pa s sa sw rp t, z))) else (if 3 < x2 then (some (.inl (some (.int (-1))), (jX f g n2 p pa s sa sw rp t, z))) else (if x3 < 0 then (some (.inl (some (.int (-1))), (jX f g n2 p pa s sa sw rp t, z))) else (if 1 < x3 then (some (.inl (some (.int (-1))), (jX f g n2 p pa s sa sw rp t, z))) else (jbO (K_h_remember D 1 f g n2 p pa s sa sw rp t z) (jk D 117 22 ([some (.ref 0), some (.int x1), some (.int x2), some (.int x3), d4, d5, d6, d7], []) [])))))) := by
  cases sw
  · refine (jev_blk 1 (pc' := if u0 = 0 then 16 else 5) (L' := ([some (.ref 0), some (.int x1), some (.int x2), some (.int x3), d4, d5, d6, d7], [])) (S' := []) (h' := (jX f g n2 p pa s sa false rp t, z)) rfl).trans (jev_ite.trans (jite_congr (fun _ => ?_) (fun _ => ?_)))
    · refine (jev_blk 1 (pc' := 17) (L' := ([some (.ref 0), some (.int x1), some (.int x2), some (.int x3), d4, d5, d6, d7], [])) (S' := [.int (-1)]) (h' := (jX f g n2 p pa s sa false rp t, z)) rfl).trans ?_
      exact jev_fin rfl
    · refine (jev_blk 3 (pc' := if x2 < 1 then 16 else 8) (L' := ([some (.ref 0), some (.int x1), some (.int x2), some (.int x3), d4, d5, d6, d7], [])) (S' := []) (h' := (jX f g n2 p pa s sa false rp t, z)) rfl).trans (jev_ite.trans (jite_congr (fun _ => ?_) (fun _ => ?_)))
      · refine (jev_blk 1 (pc' := 17) (L' := ([some (.ref 0), some (.int x1), some (.int x2), some (.int x3), d4, d5, d6, d7], [])) (S' := [.int (-1)]) (h' := (jX f g n2 p pa s sa false rp t, z)) rfl).trans ?_
        exact jev_fin rfl
      · refine (jev_blk 3 (pc' := if 3 < x2 then 16 else 11) (L' := ([some (.ref 0), some (.int x1), some (.int x2), some (.int x3), d4, d5, d6, d7], [])) (S' := []) (h' := (jX f g n2 p pa s sa false rp t, z)) rfl).trans (jev_ite.trans (jite_congr (fun _ => ?_) (fun _ => ?_)))
        · refine (jev_blk 1 (pc' := 17) (L' := ([some (.ref 0), some (.int x1), some (.int x2), some (.int x3), d4, d5, d6, d7], [])) (S' := [.int (-1)]) (h' := (jX f g n2 p pa s sa false rp t, z)) rfl).trans ?_
          exact jev_fin rfl
        · refine (jev_blk 2 (pc' := if x3 < 0 then 16 else 13) (L' := ([some (.ref 0), some (.int x1), some (.int x2), some (.int x3), d4, d5, d6, d7], [])) (S' := []) (h' := (jX f g n2 p pa s sa false rp t, z)) rfl).trans (jev_ite.trans (jite_congr (fun _ => ?_) (fun _ => ?_)))
          · refine (jev_blk 1 (pc' := 17) (L' := ([some (.ref 0), some (.int x1), some (.int x2), some (.int x3), d4, d5, d6, d7], [])) (S' := [.int (-1)]) (h' := (jX f g n2 p pa s sa false rp t, z)) rfl).trans ?_
            exact jev_fin rfl
          · refine (jev_blk 3 (pc' := if 1 < x3 then 16 else 18) (L' := ([some (.ref 0), some (.int x1), some (.int x2), some (.int x3), d4, d5, d6, d7], [])) (S' := []) (h' := (jX f g n2 p pa s sa false rp t, z)) rfl).trans (jev_ite.trans (jite_congr (fun _ => ?_) (fun _ => ?_)))
            · refine (jev_blk 1 (pc' := 17) (L' := ([some (.ref 0), some (.int x1), some (.int x2), some (.int x3), d4, d5, d6, d7], [])) (S' := [.int (-1)]) (h' := (jX f g n2 p pa s sa false rp t, z)) rfl).trans ?_
              exact jev_fin rfl
            · refine (jev_blk 3 (pc' := 21) (L' := ([some (.ref 0), some (.int x1), some (.int x2), some (.int x3), d4, d5, d6, d7], [])) (S' := [.int 1, .ref 43]) (h' := (jX f g n2 p pa s sa false rp t, z)) rfl).trans ?_
              exact jev_callb (nx := 22) (rest := []) rfl
  · refine (jev_blk 1 (pc' := if u0 = 0 then 16 else 5) (L' := ([some (.ref 0), some (.int x1), some (.int x2), some (.int x3), d4, d5, d6, d7], [])) (S' := []) (h' := (jX f g n2 p pa s sa true rp t, z)) rfl).trans (jev_ite.trans (jite_congr (fun _ => ?_) (fun _ => ?_)))
    · refine (jev_blk 1 (pc' := 17) (L' := ([some (.ref 0), some (.int x1), some (.int x2), some (.int x3), d4, d5, d6, d7], [])) (S' := [.int (-1)]) (h' := (jX f g n2 p pa s sa true rp t, z)) rfl).trans ?_
      exact jev_fin rfl
    · refine (jev_blk 3 (pc' := if x2 < 1 then 16 else 8) (L' := ([some (.ref 0), some (.int x1), some (.int x2), some (.int x3), d4, d5, d6, d7], [])) (S' := []) (h' := (jX f g n2 p pa s sa true rp t, z)) rfl).trans (jev_ite.trans (jite_congr (fun _ => ?_) (fun _ => ?_)))
      · refine (jev_blk 1 (pc' := 17) (L' := ([some (.ref 0), some (.int x1), some (.int x2), some (.int x3), d4, d5, d6, d7], [])) (S' := [.int (-1)]) (h' := (jX f g n2 p pa s sa true rp t, z)) rfl).trans ?_
        exact jev_fin rfl
      · refine (jev_blk 3 (pc' := if 3 < x2 then 16 else 11) (L' := ([some (.ref 0), some (.int x1), some (.int x2), some (.int x3), d4, d5, d6, d7], [])) (S' := []) (h' := (jX f g n2 p pa s sa true rp t, z)) rfl).trans (jev_ite.trans (jite_congr (fun _ => ?_) (fun _ => ?_)))
        · refine (jev_blk 1 (pc' := 17) (L' := ([some (.ref 0), some (.int x1), some (.int x2), some (.int x3), d4, d5, d6, d7], [])) (S' := [.int (-1)]) (h' := (jX f g n2 p pa s sa true rp t, z)) rfl).trans ?_
          exact jev_fin rfl
        · refine (jev_blk 2 (pc' := if x3 < 0 then 16 else 13) (L' := ([some (.ref 0), some (.int x1), some (.int x2), some (.int x3), d4, d5, d6, d7], [])) (S' := []) (h' := (jX f g n2 p pa s sa true rp t, z)) rfl).trans (jev_ite.trans (jite_congr (fun _ => ?_) (fun _ => ?_)))
          · refine (jev_blk 1 (pc' := 17) (L' := ([some (.ref 0), some (.int x1), some (.int x2), some (.int x3), d4, d5, d6, d7], [])) (S' := [.int (-1)]) (h' := (jX f g n2 p pa s sa true rp t, z)) rfl).trans ?_
            exact jev_fin rfl
          · refine (jev_blk 3 (pc' := if 1 < x3 then 16 else 18) (L' := ([some (.ref 0), some (.int x1), some (.int x2), some (.int x3), d4, d5, d6, d7], [])) (S' := []) (h' := (jX f g n2 p pa s sa true rp t, z)) rfl).trans (jev_ite.trans (jite_congr (fun _ => ?_) (fun _ => ?_)))
            · refine (jev_blk 1 (pc' := 17) (L' := ([some (.ref 0), some (.int x1), some (.int x2), some (.int x3), d4, d5, d6, d7], [])) (S' := [.int (-1)]) (h' := (jX f g n2 p pa s sa true rp t, z)) rfl).trans ?_
              exact jev_fin rfl
            · refine (jev_blk 3 (pc' := 21) (L' := ([some (.ref 0), some (.int x1), some (.int x2), some (.int x3), d4, d5, d6, d7], [])) (S' := [.int 1, .ref 43]) (h' := (jX f g n2 p pa s sa true rp t, z)) rfl).trans ?_
              exact jev_callb (nx := 22) (rest := []) rfl
set_option maxRecDepth 20000 in
theorem E_c_keeping_22 {D : Nat}  {x1 : Int32} {x2 : Int32} {x3 : Int32} {d4 : Option Value} {d5 : Option Value} {d6 : Option Value} {d7 : Option Value} {f : Nat → Int32} {g : Nat → Nat → Int32} {n2 : Nat → Nat → Int64} {p : Nat → Nat → Int32} {pa : Nat → Nat → Nat → Int32} {s : Nat → Nat → Int32} {sa : Nat → Nat → Nat → Int32} {sw : Bool} {rp : Value} {t : List jE} {z : Nat × Nat × Nat × (Nat → Int32)}  : jev D 117 22 ([some (.ref 0), some (.int x1), some (.int x2), some (.int x3), d4, d5, d6, d7], []) [] (jX f g n2 p pa s sa sw rp t, z) = K_c_keeping_28 D x1 x2 x3 2971 0 0 d7 f g n2 p pa s sa sw rp t z := by
  cases sw
  · exact jev_blk 6 rfl
  · exact jev_blk 6 rfl
set_option maxRecDepth 20000 in
theorem L_c_keeping_28 {D : Nat}  {x1 : Int32} {x2 : Int32} {x3 : Int32} {x4 : Int32} {x5 : Int32} {x6 : Int32} {d7 : Option Value} {f : Nat → Int32} {g : Nat → Nat → Int32} {n2 : Nat → Nat → Int64} {p : Nat → Nat → Int32} {pa : Nat → Nat → Nat → Int32} {s : Nat → Nat → Int32} {sa : Nat → Nat → Nat → Int32} {sw : Bool} {rp : Value} {t : List jE} {z : Nat × Nat × Nat × (Nat → Int32)}  : K_c_keeping_28 D x1 x2 x3 x4 x5 x6 d7 f g n2 p pa s sa sw rp t z = if (if (p (jq sw) 6) < 3 then (p (jq sw) 6) else 3) < x6 then (jbO (K_h_remember D 0 f g n2 p pa s sa sw rp t z) (jk D 117 87 ([some (.ref 0), some (.int x1), some (.int x2), some (.int x3), some (.int x4), some (.int x5), some (.int x6), d7], []) [])) else (K_c_keeping_37 D x1 x2 x3 x4 x5 x6 0 f g n2 p pa s sa sw rp t z) := by
  cases sw
  · refine (jev_blk 5 (pc' := 33) (L' := ([some (.ref 0), some (.int x1), some (.int x2), some (.int x3), some (.int x4), some (.int x5), some (.int x6), d7], [])) (S' := [.int (p (jq false) 6), .int 3, .int x6]) (h' := (jX f g n2 p pa s sa false rp t, z)) rfl).trans ?_
    refine (jev_prim (a := 8) (As := [.int 3, .int (p (jq false) 6)]) (nx := 34) (rest := [.int x6]) rfl (r := some (.int (if (p (jq false) 6) < 3 then (p (jq false) 6) else 3))) (h' := (jX f g n2 p pa s sa false rp t, z)) rfl).trans ?_
    refine (jev_blk 1 (pc' := if (if (p (jq false) 6) < 3 then (p (jq false) 6) else 3) < x6 then 83 else 35) (L' := ([some (.ref 0), some (.int x1), some (.int x2), some (.int x3), some (.int x4), some (.int x5), some (.int x6), d7], [])) (S' := []) (h' := (jX f g n2 p pa s sa false rp t, z)) rfl).trans (jev_ite.trans (jite_congr (fun _ => ?_) (fun _ => ?_)))
    · refine (jev_blk 3 (pc' := 86) (L' := ([some (.ref 0), some (.int x1), some (.int x2), some (.int x3), some (.int x4), some (.int x5), some (.int x6), d7], [])) (S' := [.int 0, .ref 43]) (h' := (jX f g n2 p pa s sa false rp t, z)) rfl).trans ?_
      exact jev_callb (nx := 87) (rest := []) rfl
    · exact jev_blk 2 rfl
  · refine (jev_blk 5 (pc' := 33) (L' := ([some (.ref 0), some (.int x1), some (.int x2), some (.int x3), some (.int x4), some (.int x5), some (.int x6), d7], [])) (S' := [.int (p (jq true) 6), .int 3, .int x6]) (h' := (jX f g n2 p pa s sa true rp t, z)) rfl).trans ?_
    refine (jev_prim (a := 8) (As := [.int 3, .int (p (jq true) 6)]) (nx := 34) (rest := [.int x6]) rfl (r := some (.int (if (p (jq true) 6) < 3 then (p (jq true) 6) else 3))) (h' := (jX f g n2 p pa s sa true rp t, z)) rfl).trans ?_
    refine (jev_blk 1 (pc' := if (if (p (jq true) 6) < 3 then (p (jq true) 6) else 3) < x6 then 83 else 35) (L' := ([some (.ref 0), some (.int x1), some (.int x2), some (.int x3), some (.int x4), some (.int x5), some (.int x6), d7], [])) (S' := []) (h' := (jX f g n2 p pa s sa true rp t, z)) rfl).trans (jev_ite.trans (jite_congr (fun _ => ?_) (fun _ => ?_)))
    · refine (jev_blk 3 (pc' := 86) (L' := ([some (.ref 0), some (.int x1), some (.int x2), some (.int x3), some (.int x4), some (.int x5), some (.int x6), d7], [])) (S' := [.int 0, .ref 43]) (h' := (jX f g n2 p pa s sa true rp t, z)) rfl).trans ?_
      exact jev_callb (nx := 87) (rest := []) rfl
    · exact jev_blk 2 rfl
set_option maxRecDepth 20000 in
theorem L_c_keeping_37 {D : Nat}  {x1 : Int32} {x2 : Int32} {x3 : Int32} {x4 : Int32} {x5 : Int32} {x6 : Int32} {x7 : Int32} {f : Nat → Int32} {g : Nat → Nat → Int32} {n2 : Nat → Nat → Int64} {p : Nat → Nat → Int32} {pa : Nat → Nat → Nat → Int32} {s : Nat → Nat → Int32} {sa : Nat → Nat → Nat → Int32} {sw : Bool} {rp : Value} {t : List jE} {z : Nat × Nat × Nat × (Nat → Int32)}  : K_c_keeping_37 D x1 x2 x3 x4 x5 x6 x7 f g n2 p pa s sa sw rp t z = if x7 < 4096 then (jbO (K_j_bitCount D x7 f g n2 p pa s sa sw rp t z) (jk D 117 42 ([some (.ref 0), some (.int x1), some (.int x2), some (.int x3), some (.int x4), some (.int x5), some (.int x6), some (.int x7)], []) [])) else (K_c_keeping_28 D x1 x2 x3 x4 x5 (x6 + 1) (some (.int x7)) f g n2 p pa s sa sw rp t z) := by
  cases sw
  · refine (jev_blk 3 (pc' := if x7 < 4096 then 40 else 81) (L' := ([some (.ref 0), some (.int x1), some (.int x2), some (.int x3), some (.int x4), some (.int x5), some (.int x6), some (.int x7)], [])) (S' := []) (h' := (jX f g n2 p pa s sa false rp t, z)) rfl).trans (jev_ite.trans (jite_congr (fun _ => ?_) (fun _ => ?_)))
    · refine (jev_blk 1 (pc' := 41) (L' := ([some (.ref 0), some (.int x1), some (.int x2), some (.int x3), some (.int x4), some (.int x5), some (.int x6), some (.int x7)], [])) (S' := [.int x7]) (h' := (jX f g n2 p pa s sa false rp t, z)) rfl).trans ?_
      exact jev_callb (nx := 42) (rest := []) rfl
    · exact jev_blk 2 rfl
  · refine (jev_blk 3 (pc' := if x7 < 4096 then 40 else 81) (L' := ([some (.ref 0), some (.int x1), some (.int x2), some (.int x3), some (.int x4), some (.int x5), some (.int x6), some (.int x7)], [])) (S' := []) (h' := (jX f g n2 p pa s sa true rp t, z)) rfl).trans (jev_ite.trans (jite_congr (fun _ => ?_) (fun _ => ?_)))
    · refine (jev_blk 1 (pc' := 41) (L' := ([some (.ref 0), some (.int x1), some (.int x2), some (.int x3), some (.int x4), some (.int x5), some (.int x6), some (.int x7)], [])) (S' := [.int x7]) (h' := (jX f g n2 p pa s sa true rp t, z)) rfl).trans ?_
      exact jev_callb (nx := 42) (rest := []) rfl
    · exact jev_blk 2 rfl
set_option maxRecDepth 20000 in
theorem E_c_keeping_87 {D : Nat}  {d1 : Option Value} {d2 : Option Value} {x3 : Int32} {x4 : Int32} {x5 : Int32} {d6 : Option Value} {d7 : Option Value} {f : Nat → Int32} {g : Nat → Nat → Int32} {n2 : Nat → Nat → Int64} {p : Nat → Nat → Int32} {pa : Nat → Nat → Nat → Int32} {s : Nat → Nat → Int32} {sa : Nat → Nat → Nat → Int32} {sw : Bool} {rp : Value} {t : List jE} {z : Nat × Nat × Nat × (Nat → Int32)}  : jev D 117 87 ([some (.ref 0), d1, d2, some (.int x3), some (.int x4), some (.int x5), d6, d7], []) [] (jX f g n2 p pa s sa sw rp t, z) = if x3 = 0 then (some (.inl (some (.int x5)), (jX f g n2 p pa s sa sw rp t, z))) else (some (.inl (some (.int x4)), (jX f g n2 p pa s sa sw rp t, z))) := by
  cases sw
  · refine (jev_blk 2 (pc' := if x3 = 0 then 89 else 91) (L' := ([some (.ref 0), d1, d2, some (.int x3), some (.int x4), some (.int x5), d6, d7], [])) (S' := []) (h' := (jX f g n2 p pa s sa false rp t, z)) rfl).trans (jev_ite.trans (jite_congr (fun _ => ?_) (fun _ => ?_)))
    · refine (jev_blk 2 (pc' := 92) (L' := ([some (.ref 0), d1, d2, some (.int x3), some (.int x4), some (.int x5), d6, d7], [])) (S' := [.int x5]) (h' := (jX f g n2 p pa s sa false rp t, z)) rfl).trans ?_
      exact jev_fin rfl
    · refine (jev_blk 1 (pc' := 92) (L' := ([some (.ref 0), d1, d2, some (.int x3), some (.int x4), some (.int x5), d6, d7], [])) (S' := [.int x4]) (h' := (jX f g n2 p pa s sa false rp t, z)) rfl).trans ?_
      exact jev_fin rfl
  · refine (jev_blk 2 (pc' := if x3 = 0 then 89 else 91) (L' := ([some (.ref 0), d1, d2, some (.int x3), some (.int x4), some (.int x5), d6, d7], [])) (S' := []) (h' := (jX f g n2 p pa s sa true rp t, z)) rfl).trans (jev_ite.trans (jite_congr (fun _ => ?_) (fun _ => ?_)))
    · refine (jev_blk 2 (pc' := 92) (L' := ([some (.ref 0), d1, d2, some (.int x3), some (.int x4), some (.int x5), d6, d7], [])) (S' := [.int x5]) (h' := (jX f g n2 p pa s sa true rp t, z)) rfl).trans ?_
      exact jev_fin rfl
    · refine (jev_blk 1 (pc' := 92) (L' := ([some (.ref 0), d1, d2, some (.int x3), some (.int x4), some (.int x5), d6, d7], [])) (S' := [.int x4]) (h' := (jX f g n2 p pa s sa true rp t, z)) rfl).trans ?_
      exact jev_fin rfl
set_option maxRecDepth 20000 in
theorem E_c_keeping_42 {D : Nat}  {x1 : Int32} {x2 : Int32} {x3 : Int32} {x4 : Int32} {x5 : Int32} {x6 : Int32} {x7 : Int32} {u0 : Int32} {f : Nat → Int32} {g : Nat → Nat → Int32} {n2 : Nat → Nat → Int64} {p : Nat → Nat → Int32} {pa : Nat → Nat → Nat → Int32} {s : Nat → Nat → Int32} {sa : Nat → Nat → Nat → Int32} {sw : Bool} {rp : Value} {t : List jE} {z : Nat × Nat × Nat × (Nat → Int32)}  : jev D 117 42 ([some (.ref 0), some (.int x1), some (.int x2), some (.int x3), some (.int x4), some (.int x5), some (.int x6), some (.int x7)], []) [.int u0] (jX f g n2 p pa s sa sw rp t, z) = if u0 = x6 then (jbO (K_s_follow20 D f g n2 p pa s sa sw rp t z) (jk D 117 49 ([some (.ref 0), some (.int x1), some (.int x2), some (.int x3), some (.int x4), some (.int x5), some (.int x6), some (.int x7)], []) [])) else (K_c_keeping_79 D x1 x2 x3 x4 x5 x6 x7 f g n2 p pa s sa sw rp t z) := by
  cases sw
  · refine (jev_blk 2 (pc' := if u0 = x6 then 44 else 79) (L' := ([some (.ref 0), some (.int x1), some (.int x2), some (.int x3), some (.int x4), some (.int x5), some (.int x6), some (.int x7)], [])) (S' := []) (h' := (jX f g n2 p pa s sa false rp t, z)) rfl).trans (jev_ite.trans (jite_congr (fun _ => ?_) (fun _ => ?_)))
    · refine (jev_blk 4 (pc' := 48) (L' := ([some (.ref 0), some (.int x1), some (.int x2), some (.int x3), some (.int x4), some (.int x5), some (.int x6), some (.int x7)], [])) (S' := [.ref 49, .ref 61]) (h' := (jX f g n2 p pa s sa false rp t, z)) rfl).trans ?_
      exact jev_callb (nx := 49) (rest := []) rfl
    · rfl
  · refine (jev_blk 2 (pc' := if u0 = x6 then 44 else 79) (L' := ([some (.ref 0), some (.int x1), some (.int x2), some (.int x3), some (.int x4), some (.int x5), some (.int x6), some (.int x7)], [])) (S' := []) (h' := (jX f g n2 p pa s sa true rp t, z)) rfl).trans (jev_ite.trans (jite_congr (fun _ => ?_) (fun _ => ?_)))
    · refine (jev_blk 4 (pc' := 48) (L' := ([some (.ref 0), some (.int x1), some (.int x2), some (.int x3), some (.int x4), some (.int x5), some (.int x6), some (.int x7)], [])) (S' := [.ref 49, .ref 61]) (h' := (jX f g n2 p pa s sa true rp t, z)) rfl).trans ?_
      exact jev_callb (nx := 49) (rest := []) rfl
    · rfl
set_option maxRecDepth 20000 in
theorem E_c_keeping_79 {D : Nat}  {x1 : Int32} {x2 : Int32} {x3 : Int32} {x4 : Int32} {x5 : Int32} {x6 : Int32} {x7 : Int32} {f : Nat → Int32} {g : Nat → Nat → Int32} {n2 : Nat → Nat → Int64} {p : Nat → Nat → Int32} {pa : Nat → Nat → Nat → Int32} {s : Nat → Nat → Int32} {sa : Nat → Nat → Nat → Int32} {sw : Bool} {rp : Value} {t : List jE} {z : Nat × Nat × Nat × (Nat → Int32)}  : K_c_keeping_79 D x1 x2 x3 x4 x5 x6 x7 f g n2 p pa s sa sw rp t z = K_c_keeping_37 D x1 x2 x3 x4 x5 x6 (x7 + 1) f g n2 p pa s sa sw rp t z := by
  cases sw
  · exact jev_blk 2 rfl
  · exact jev_blk 2 rfl
set_option maxRecDepth 20000 in
theorem E_c_keeping_49 {D : Nat}  {x1 : Int32} {x2 : Int32} {x3 : Int32} {x4 : Int32} {x5 : Int32} {x6 : Int32} {x7 : Int32} {f : Nat → Int32} {g : Nat → Nat → Int32} {n2 : Nat → Nat → Int64} {p : Nat → Nat → Int32} {pa : Nat → Nat → Nat → Int32} {s : Nat → Nat → Int32} {sa : Nat → Nat → Nat → Int32} {sw : Bool} {rp : Value} {t : List jE} {z : Nat × Nat × Nat × (Nat → Int32)}  : jev D 117 49 ([some (.ref 0), some (.int x1), some (.int x2), some (.int x3), some (.int x4), some (.int x5), some (.int x6), some (.int x7)], []) [] (jX f g n2 p pa s sa sw rp t, z) = if jout x1 6 then none else (jbO (K_h_passHours D 2 ((x2 * 12) - (s 0 1)) x4 f g n2 p pa s (jup sa 2 (jup (sa 2) 2 ((jup (sa 2 2) (x1.toNatClampNeg) x7)))) sw rp t z) (jk D 117 68 ([some (.ref 0), some (.int x1), some (.int x2), some (.int x3), some (.int x4), some (.int x5), some (.int x6), some (.int x7)], []) [])) := by
  cases sw
  · refine (jev_blk 5 (pc' := 54) (L' := ([some (.ref 0), some (.int x1), some (.int x2), some (.int x3), some (.int x4), some (.int x5), some (.int x6), some (.int x7)], [])) (S' := [.int x7, .int x1, .ref 64]) (h' := (jX f g n2 p pa s sa false rp t, z)) rfl).trans ?_
    refine (jev_grd (q := jout x1 6) (pc' := 55) (L' := ([some (.ref 0), some (.int x1), some (.int x2), some (.int x3), some (.int x4), some (.int x5), some (.int x6), some (.int x7)], [])) (S' := []) (h' := (jX f g n2 p pa s (jup sa 2 (jup (sa 2) 2 ((jup (sa 2 2) (x1.toNatClampNeg) x7)))) false rp t, z)) rfl).trans (jite_congr (fun _ => rfl) (fun _ => ?_))
    refine (jev_blk 12 (pc' := 67) (L' := ([some (.ref 0), some (.int x1), some (.int x2), some (.int x3), some (.int x4), some (.int x5), some (.int x6), some (.int x7)], [])) (S' := [.int x4, .int ((x2 * 12) - (s 0 1)), .ref 61, .ref 43]) (h' := (jX f g n2 p pa s (jup sa 2 (jup (sa 2) 2 ((jup (sa 2 2) (x1.toNatClampNeg) x7)))) false rp t, z)) rfl).trans ?_
    exact jev_callb (nx := 68) (rest := []) rfl
  · refine (jev_blk 5 (pc' := 54) (L' := ([some (.ref 0), some (.int x1), some (.int x2), some (.int x3), some (.int x4), some (.int x5), some (.int x6), some (.int x7)], [])) (S' := [.int x7, .int x1, .ref 64]) (h' := (jX f g n2 p pa s sa true rp t, z)) rfl).trans ?_
    refine (jev_grd (q := jout x1 6) (pc' := 55) (L' := ([some (.ref 0), some (.int x1), some (.int x2), some (.int x3), some (.int x4), some (.int x5), some (.int x6), some (.int x7)], [])) (S' := []) (h' := (jX f g n2 p pa s (jup sa 2 (jup (sa 2) 2 ((jup (sa 2 2) (x1.toNatClampNeg) x7)))) true rp t, z)) rfl).trans (jite_congr (fun _ => rfl) (fun _ => ?_))
    refine (jev_blk 12 (pc' := 67) (L' := ([some (.ref 0), some (.int x1), some (.int x2), some (.int x3), some (.int x4), some (.int x5), some (.int x6), some (.int x7)], [])) (S' := [.int x4, .int ((x2 * 12) - (s 0 1)), .ref 61, .ref 43]) (h' := (jX f g n2 p pa s (jup sa 2 (jup (sa 2) 2 ((jup (sa 2 2) (x1.toNatClampNeg) x7)))) true rp t, z)) rfl).trans ?_
    exact jev_callb (nx := 68) (rest := []) rfl
