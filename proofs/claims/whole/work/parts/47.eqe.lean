-- EQUATIONS: one a block; E_ unfolds, L_ a loop's head
set_option maxRecDepth 20000 in
theorem L_c_fits_40 {D : Nat}  {x1 : Int32} {x2 : Int32} {x3 : Int32} {x4 : Int32} {x5 : Int32} {x6 : Int32} {x7 : Int32} {f : Nat → Int32} {g : Nat → Nat → Int32} {n2 : Nat → Nat → Int64} {p : Nat → Nat → Int32} {pa : Nat → Nat → Nat → Int32} {s : Nat → Nat → Int32} {sa : Nat → Nat → Nat → Int32} {sw : Bool} {rp : Value} {t : List jE} {z : Nat × Nat × Nat × (Nat → Int32)}  : K_c_fits_40 D x1 x2 x3 x4 x5 x6 x7 f g n2 p pa s sa sw rp t z = if x3 < x7 then (K_c_fits_60 D x1 x2 x3 x4 x5 x6 (some (.int x7)) f g n2 p pa s sa sw rp t z) else (if x6 = 0 then (K_c_fits_60 D x1 x2 x3 x4 x5 x6 (some (.int x7)) f g n2 p pa s sa sw rp t z) else (jbO (K_h_pass D 2 f g n2 p pa s sa sw rp t z) (jk D 130 50 ([some (.ref 0), some (.int x1), some (.int x2), some (.int x3), some (.int x4), some (.int x5), some (.int x6), some (.int x7)], []) []))) := by
  cases sw
  · refine (jev_blk 3 (pc' := if x3 < x7 then 60 else 43) (L' := ([some (.ref 0), some (.int x1), some (.int x2), some (.int x3), some (.int x4), some (.int x5), some (.int x6), some (.int x7)], [])) (S' := []) (h' := (jX f g n2 p pa s sa false rp t, z)) rfl).trans (jev_ite.trans (jite_congr (fun _ => ?_) (fun _ => ?_)))
    · rfl
    · refine (jev_blk 2 (pc' := if x6 = 0 then 60 else 45) (L' := ([some (.ref 0), some (.int x1), some (.int x2), some (.int x3), some (.int x4), some (.int x5), some (.int x6), some (.int x7)], [])) (S' := []) (h' := (jX f g n2 p pa s sa false rp t, z)) rfl).trans (jev_ite.trans (jite_congr (fun _ => ?_) (fun _ => ?_)))
      · rfl
      · refine (jev_blk 4 (pc' := 49) (L' := ([some (.ref 0), some (.int x1), some (.int x2), some (.int x3), some (.int x4), some (.int x5), some (.int x6), some (.int x7)], [])) (S' := [.ref 61, .ref 43]) (h' := (jX f g n2 p pa s sa false rp t, z)) rfl).trans ?_
        exact jev_callb (nx := 50) (rest := []) rfl
  · refine (jev_blk 3 (pc' := if x3 < x7 then 60 else 43) (L' := ([some (.ref 0), some (.int x1), some (.int x2), some (.int x3), some (.int x4), some (.int x5), some (.int x6), some (.int x7)], [])) (S' := []) (h' := (jX f g n2 p pa s sa true rp t, z)) rfl).trans (jev_ite.trans (jite_congr (fun _ => ?_) (fun _ => ?_)))
    · rfl
    · refine (jev_blk 2 (pc' := if x6 = 0 then 60 else 45) (L' := ([some (.ref 0), some (.int x1), some (.int x2), some (.int x3), some (.int x4), some (.int x5), some (.int x6), some (.int x7)], [])) (S' := []) (h' := (jX f g n2 p pa s sa true rp t, z)) rfl).trans (jev_ite.trans (jite_congr (fun _ => ?_) (fun _ => ?_)))
      · rfl
      · refine (jev_blk 4 (pc' := 49) (L' := ([some (.ref 0), some (.int x1), some (.int x2), some (.int x3), some (.int x4), some (.int x5), some (.int x6), some (.int x7)], [])) (S' := [.ref 61, .ref 43]) (h' := (jX f g n2 p pa s sa true rp t, z)) rfl).trans ?_
        exact jev_callb (nx := 50) (rest := []) rfl
set_option maxRecDepth 20000 in
theorem E_c_fits_60 {D : Nat}  {x1 : Int32} {x2 : Int32} {x3 : Int32} {x4 : Int32} {x5 : Int32} {x6 : Int32} {d7 : Option Value} {f : Nat → Int32} {g : Nat → Nat → Int32} {n2 : Nat → Nat → Int64} {p : Nat → Nat → Int32} {pa : Nat → Nat → Nat → Int32} {s : Nat → Nat → Int32} {sa : Nat → Nat → Nat → Int32} {sw : Bool} {rp : Value} {t : List jE} {z : Nat × Nat × Nat × (Nat → Int32)}  : K_c_fits_60 D x1 x2 x3 x4 x5 x6 d7 f g n2 p pa s sa sw rp t z = if x6 = 0 then (K_c_fits_68 D x1 x2 x3 x4 x5 (some (.int x6)) d7 f g n2 p pa s sa sw rp t z) else (K_c_fits_68 D x1 x2 x3 (x4 ||| (1 <<< (x5 &&& 31))) x5 (some (.int x6)) d7 f g n2 p pa s sa sw rp t z) := by
  cases sw
  · refine (jev_blk 2 (pc' := if x6 = 0 then 68 else 62) (L' := ([some (.ref 0), some (.int x1), some (.int x2), some (.int x3), some (.int x4), some (.int x5), some (.int x6), d7], [])) (S' := []) (h' := (jX f g n2 p pa s sa false rp t, z)) rfl).trans (jev_ite.trans (jite_congr (fun _ => ?_) (fun _ => ?_)))
    · rfl
    · exact jev_blk 6 rfl
  · refine (jev_blk 2 (pc' := if x6 = 0 then 68 else 62) (L' := ([some (.ref 0), some (.int x1), some (.int x2), some (.int x3), some (.int x4), some (.int x5), some (.int x6), d7], [])) (S' := []) (h' := (jX f g n2 p pa s sa true rp t, z)) rfl).trans (jev_ite.trans (jite_congr (fun _ => ?_) (fun _ => ?_)))
    · rfl
    · exact jev_blk 6 rfl
set_option maxRecDepth 20000 in
theorem E_c_fits_68 {D : Nat}  {x1 : Int32} {x2 : Int32} {x3 : Int32} {x4 : Int32} {x5 : Int32} {d6 : Option Value} {d7 : Option Value} {f : Nat → Int32} {g : Nat → Nat → Int32} {n2 : Nat → Nat → Int64} {p : Nat → Nat → Int32} {pa : Nat → Nat → Nat → Int32} {s : Nat → Nat → Int32} {sa : Nat → Nat → Nat → Int32} {sw : Bool} {rp : Value} {t : List jE} {z : Nat × Nat × Nat × (Nat → Int32)}  : K_c_fits_68 D x1 x2 x3 x4 x5 d6 d7 f g n2 p pa s sa sw rp t z = K_c_fits_20 D x1 x2 x3 x4 (x5 + 1) d6 d7 f g n2 p pa s sa sw rp t z := by
  cases sw
  · exact jev_blk 2 rfl
  · exact jev_blk 2 rfl
set_option maxRecDepth 20000 in
theorem E_c_fits_50 {D : Nat}  {x1 : Int32} {x2 : Int32} {x3 : Int32} {x4 : Int32} {x5 : Int32} {d6 : Option Value} {x7 : Int32} {f : Nat → Int32} {g : Nat → Nat → Int32} {n2 : Nat → Nat → Int64} {p : Nat → Nat → Int32} {pa : Nat → Nat → Nat → Int32} {s : Nat → Nat → Int32} {sa : Nat → Nat → Nat → Int32} {sw : Bool} {rp : Value} {t : List jE} {z : Nat × Nat × Nat × (Nat → Int32)}  : jev D 130 50 ([some (.ref 0), some (.int x1), some (.int x2), some (.int x3), some (.int x4), some (.int x5), d6, some (.int x7)], []) [] (jX f g n2 p pa s sa sw rp t, z) = jbO (K_n_agree D 2 x2 x7 f g n2 p pa s sa sw rp t z) (jk D 130 57 ([some (.ref 0), some (.int x1), some (.int x2), some (.int x3), some (.int x4), some (.int x5), d6, some (.int x7)], []) []) := by
  cases sw
  · refine (jev_blk 6 (pc' := 56) (L' := ([some (.ref 0), some (.int x1), some (.int x2), some (.int x3), some (.int x4), some (.int x5), d6, some (.int x7)], [])) (S' := [.ref 61, .int x7, .int x2, .ref 71]) (h' := (jX f g n2 p pa s sa false rp t, z)) rfl).trans ?_
    exact jev_callb (nx := 57) (rest := []) rfl
  · refine (jev_blk 6 (pc' := 56) (L' := ([some (.ref 0), some (.int x1), some (.int x2), some (.int x3), some (.int x4), some (.int x5), d6, some (.int x7)], [])) (S' := [.ref 61, .int x7, .int x2, .ref 71]) (h' := (jX f g n2 p pa s sa true rp t, z)) rfl).trans ?_
    exact jev_callb (nx := 57) (rest := []) rfl
set_option maxRecDepth 20000 in
theorem E_c_fits_57 {D : Nat}  {x1 : Int32} {x2 : Int32} {x3 : Int32} {x4 : Int32} {x5 : Int32} {d6 : Option Value} {x7 : Int32} {u0 : Int32} {f : Nat → Int32} {g : Nat → Nat → Int32} {n2 : Nat → Nat → Int64} {p : Nat → Nat → Int32} {pa : Nat → Nat → Nat → Int32} {s : Nat → Nat → Int32} {sa : Nat → Nat → Nat → Int32} {sw : Bool} {rp : Value} {t : List jE} {z : Nat × Nat × Nat × (Nat → Int32)}  : jev D 130 57 ([some (.ref 0), some (.int x1), some (.int x2), some (.int x3), some (.int x4), some (.int x5), d6, some (.int x7)], []) [.int u0] (jX f g n2 p pa s sa sw rp t, z) = K_c_fits_40 D x1 x2 x3 x4 x5 u0 (x7 + 1) f g n2 p pa s sa sw rp t z := by
  cases sw
  · exact jev_blk 3 rfl
  · exact jev_blk 3 rfl
set_option maxRecDepth 20000 in
theorem E_c_chance {D : Nat}  {a0 : Int32} {a1 : Int32} {a2 : Int32} {f : Nat → Int32} {g : Nat → Nat → Int32} {n2 : Nat → Nat → Int64} {p : Nat → Nat → Int32} {pa : Nat → Nat → Nat → Int32} {s : Nat → Nat → Int32} {sa : Nat → Nat → Nat → Int32} {sw : Bool} {rp : Value} {t : List jE} {z : Nat × Nat × Nat × (Nat → Int32)}  : K_c_chance D a0 a1 a2 f g n2 p pa s sa sw rp t z = if a0 < 0 then (some (.inl (some (.int (-1))), (jX f g n2 p pa s sa sw rp t, z))) else (if a1 < 1 then (some (.inl (some (.int (-1))), (jX f g n2 p pa s sa sw rp t, z))) else (if 9 < a1 then (some (.inl (some (.int (-1))), (jX f g n2 p pa s sa sw rp t, z))) else (if a2 < 0 then (some (.inl (some (.int (-1))), (jX f g n2 p pa s sa sw rp t, z))) else (if 9999 < a2 then (some (.inl (some (.int (-1))), (jX f g n2 p pa s sa sw rp t, z))) else (K_c_chance_34 D (some (.int a0)) a1 a2 a0.toInt64 0 0 none (jup (jup f 21 (1)) 22 ((s 0 0))) g n2 p pa s sa sw rp t z))))) := by
  cases sw
  · refine (jev_blk 2 (pc' := if a0 < 0 then 13 else 2) (L' := ([some (.ref 0), some (.int a0), some (.int a1), some (.int a2), none, none, none, none, none, none], [none, none, none, none, none, none, none, none, none, none])) (S' := []) (h' := (jX f g n2 p pa s sa false rp t, z)) rfl).trans (jev_ite.trans (jite_congr (fun _ => ?_) (fun _ => ?_)))
    · refine (jev_blk 1 (pc' := 14) (L' := ([some (.ref 0), some (.int a0), some (.int a1), some (.int a2), none, none, none, none, none, none], [none, none, none, none, none, none, none, none, none, none])) (S' := [.int (-1)]) (h' := (jX f g n2 p pa s sa false rp t, z)) rfl).trans ?_
      exact jev_fin rfl
    · refine (jev_blk 3 (pc' := if a1 < 1 then 13 else 5) (L' := ([some (.ref 0), some (.int a0), some (.int a1), some (.int a2), none, none, none, none, none, none], [none, none, none, none, none, none, none, none, none, none])) (S' := []) (h' := (jX f g n2 p pa s sa false rp t, z)) rfl).trans (jev_ite.trans (jite_congr (fun _ => ?_) (fun _ => ?_)))
      · refine (jev_blk 1 (pc' := 14) (L' := ([some (.ref 0), some (.int a0), some (.int a1), some (.int a2), none, none, none, none, none, none], [none, none, none, none, none, none, none, none, none, none])) (S' := [.int (-1)]) (h' := (jX f g n2 p pa s sa false rp t, z)) rfl).trans ?_
        exact jev_fin rfl
      · refine (jev_blk 3 (pc' := if 9 < a1 then 13 else 8) (L' := ([some (.ref 0), some (.int a0), some (.int a1), some (.int a2), none, none, none, none, none, none], [none, none, none, none, none, none, none, none, none, none])) (S' := []) (h' := (jX f g n2 p pa s sa false rp t, z)) rfl).trans (jev_ite.trans (jite_congr (fun _ => ?_) (fun _ => ?_)))
        · refine (jev_blk 1 (pc' := 14) (L' := ([some (.ref 0), some (.int a0), some (.int a1), some (.int a2), none, none, none, none, none, none], [none, none, none, none, none, none, none, none, none, none])) (S' := [.int (-1)]) (h' := (jX f g n2 p pa s sa false rp t, z)) rfl).trans ?_
          exact jev_fin rfl
        · refine (jev_blk 2 (pc' := if a2 < 0 then 13 else 10) (L' := ([some (.ref 0), some (.int a0), some (.int a1), some (.int a2), none, none, none, none, none, none], [none, none, none, none, none, none, none, none, none, none])) (S' := []) (h' := (jX f g n2 p pa s sa false rp t, z)) rfl).trans (jev_ite.trans (jite_congr (fun _ => ?_) (fun _ => ?_)))
          · refine (jev_blk 1 (pc' := 14) (L' := ([some (.ref 0), some (.int a0), some (.int a1), some (.int a2), none, none, none, none, none, none], [none, none, none, none, none, none, none, none, none, none])) (S' := [.int (-1)]) (h' := (jX f g n2 p pa s sa false rp t, z)) rfl).trans ?_
            exact jev_fin rfl
          · refine (jev_blk 3 (pc' := if 9999 < a2 then 13 else 15) (L' := ([some (.ref 0), some (.int a0), some (.int a1), some (.int a2), none, none, none, none, none, none], [none, none, none, none, none, none, none, none, none, none])) (S' := []) (h' := (jX f g n2 p pa s sa false rp t, z)) rfl).trans (jev_ite.trans (jite_congr (fun _ => ?_) (fun _ => ?_)))
            · refine (jev_blk 1 (pc' := 14) (L' := ([some (.ref 0), some (.int a0), some (.int a1), some (.int a2), none, none, none, none, none, none], [none, none, none, none, none, none, none, none, none, none])) (S' := [.int (-1)]) (h' := (jX f g n2 p pa s sa false rp t, z)) rfl).trans ?_
              exact jev_fin rfl
            · exact jev_blk 19 rfl
  · refine (jev_blk 2 (pc' := if a0 < 0 then 13 else 2) (L' := ([some (.ref 0), some (.int a0), some (.int a1), some (.int a2), none, none, none, none, none, none], [none, none, none, none, none, none, none, none, none, none])) (S' := []) (h' := (jX f g n2 p pa s sa true rp t, z)) rfl).trans (jev_ite.trans (jite_congr (fun _ => ?_) (fun _ => ?_)))
    · refine (jev_blk 1 (pc' := 14) (L' := ([some (.ref 0), some (.int a0), some (.int a1), some (.int a2), none, none, none, none, none, none], [none, none, none, none, none, none, none, none, none, none])) (S' := [.int (-1)]) (h' := (jX f g n2 p pa s sa true rp t, z)) rfl).trans ?_
      exact jev_fin rfl
    · refine (jev_blk 3 (pc' := if a1 < 1 then 13 else 5) (L' := ([some (.ref 0), some (.int a0), some (.int a1), some (.int a2), none, none, none, none, none, none], [none, none, none, none, none, none, none, none, none, none])) (S' := []) (h' := (jX f g n2 p pa s sa true rp t, z)) rfl).trans (jev_ite.trans (jite_congr (fun _ => ?_) (fun _ => ?_)))
      · refine (jev_blk 1 (pc' := 14) (L' := ([some (.ref 0), some (.int a0), some (.int a1), some (.int a2), none, none, none, none, none, none], [none, none, none, none, none, none, none, none, none, none])) (S' := [.int (-1)]) (h' := (jX f g n2 p pa s sa true rp t, z)) rfl).trans ?_
        exact jev_fin rfl
      · refine (jev_blk 3 (pc' := if 9 < a1 then 13 else 8) (L' := ([some (.ref 0), some (.int a0), some (.int a1), some (.int a2), none, none, none, none, none, none], [none, none, none, none, none, none, none, none, none, none])) (S' := []) (h' := (jX f g n2 p pa s sa true rp t, z)) rfl).trans (jev_ite.trans (jite_congr (fun _ => ?_) (fun _ => ?_)))
        · refine (jev_blk 1 (pc' := 14) (L' := ([some (.ref 0), some (.int a0), some (.int a1), some (.int a2), none, none, none, none, none, none], [none, none, none, none, none, none, none, none, none, none])) (S' := [.int (-1)]) (h' := (jX f g n2 p pa s sa true rp t, z)) rfl).trans ?_
          exact jev_fin rfl
        · refine (jev_blk 2 (pc' := if a2 < 0 then 13 else 10) (L' := ([some (.ref 0), some (.int a0), some (.int a1), some (.int a2), none, none, none, none, none, none], [none, none, none, none, none, none, none, none, none, none])) (S' := []) (h' := (jX f g n2 p pa s sa true rp t, z)) rfl).trans (jev_ite.trans (jite_congr (fun _ => ?_) (fun _ => ?_)))
          · refine (jev_blk 1 (pc' := 14) (L' := ([some (.ref 0), some (.int a0), some (.int a1), some (.int a2), none, none, none, none, none, none], [none, none, none, none, none, none, none, none, none, none])) (S' := [.int (-1)]) (h' := (jX f g n2 p pa s sa true rp t, z)) rfl).trans ?_
            exact jev_fin rfl
          · refine (jev_blk 3 (pc' := if 9999 < a2 then 13 else 15) (L' := ([some (.ref 0), some (.int a0), some (.int a1), some (.int a2), none, none, none, none, none, none], [none, none, none, none, none, none, none, none, none, none])) (S' := []) (h' := (jX f g n2 p pa s sa true rp t, z)) rfl).trans (jev_ite.trans (jite_congr (fun _ => ?_) (fun _ => ?_)))
            · refine (jev_blk 1 (pc' := 14) (L' := ([some (.ref 0), some (.int a0), some (.int a1), some (.int a2), none, none, none, none, none, none], [none, none, none, none, none, none, none, none, none, none])) (S' := [.int (-1)]) (h' := (jX f g n2 p pa s sa true rp t, z)) rfl).trans ?_
              exact jev_fin rfl
            · exact jev_blk 19 rfl
set_option maxRecDepth 20000 in
theorem L_c_chance_34 {D : Nat}  {d1 : Option Value} {x2 : Int32} {x3 : Int32} {y5 : Int64} {x7 : Int32} {x8 : Int32} {d9 : Option Value} {f : Nat → Int32} {g : Nat → Nat → Int32} {n2 : Nat → Nat → Int64} {p : Nat → Nat → Int32} {pa : Nat → Nat → Nat → Int32} {s : Nat → Nat → Int32} {sa : Nat → Nat → Nat → Int32} {sw : Bool} {rp : Value} {t : List jE} {z : Nat × Nat × Nat × (Nat → Int32)}  : K_c_chance_34 D d1 x2 x3 y5 x7 x8 d9 f g n2 p pa s sa sw rp t z = if x8 < 10 then (K_c_chance_39 D d1 x2 x3 y5 x7 x8 0 f g n2 p pa s sa sw rp t z) else (jbO (K_q_clear D f g n2 p pa s sa sw rp t z) (jk D 131 85 ([some (.ref 0), d1, some (.int x2), some (.int x3), some (.ref 44), none, none, some (.int x7), some (.int x8), d9], [none, none, none, none, none, some y5, none, none, none, none]) [])) := by
  cases sw
  · refine (jev_blk 3 (pc' := if x8 < 10 then 37 else 83) (L' := ([some (.ref 0), d1, some (.int x2), some (.int x3), some (.ref 44), none, none, some (.int x7), some (.int x8), d9], [none, none, none, none, none, some y5, none, none, none, none])) (S' := []) (h' := (jX f g n2 p pa s sa false rp t, z)) rfl).trans (jev_ite.trans (jite_congr (fun _ => ?_) (fun _ => ?_)))
    · exact jev_blk 2 rfl
    · refine (jev_blk 1 (pc' := 84) (L' := ([some (.ref 0), d1, some (.int x2), some (.int x3), some (.ref 44), none, none, some (.int x7), some (.int x8), d9], [none, none, none, none, none, some y5, none, none, none, none])) (S' := [.ref 44]) (h' := (jX f g n2 p pa s sa false rp t, z)) rfl).trans ?_
      exact jev_callb (nx := 85) (rest := []) rfl
  · refine (jev_blk 3 (pc' := if x8 < 10 then 37 else 83) (L' := ([some (.ref 0), d1, some (.int x2), some (.int x3), some (.ref 44), none, none, some (.int x7), some (.int x8), d9], [none, none, none, none, none, some y5, none, none, none, none])) (S' := []) (h' := (jX f g n2 p pa s sa true rp t, z)) rfl).trans (jev_ite.trans (jite_congr (fun _ => ?_) (fun _ => ?_)))
    · exact jev_blk 2 rfl
    · refine (jev_blk 1 (pc' := 84) (L' := ([some (.ref 0), d1, some (.int x2), some (.int x3), some (.ref 44), none, none, some (.int x7), some (.int x8), d9], [none, none, none, none, none, some y5, none, none, none, none])) (S' := [.ref 44]) (h' := (jX f g n2 p pa s sa true rp t, z)) rfl).trans ?_
      exact jev_callb (nx := 85) (rest := []) rfl
set_option maxRecDepth 20000 in
theorem L_c_chance_39 {D : Nat}  {d1 : Option Value} {x2 : Int32} {x3 : Int32} {y5 : Int64} {x7 : Int32} {x8 : Int32} {x9 : Int32} {f : Nat → Int32} {g : Nat → Nat → Int32} {n2 : Nat → Nat → Int64} {p : Nat → Nat → Int32} {pa : Nat → Nat → Nat → Int32} {s : Nat → Nat → Int32} {sa : Nat → Nat → Nat → Int32} {sw : Bool} {rp : Value} {t : List jE} {z : Nat × Nat × Nat × (Nat → Int32)}  : K_c_chance_39 D d1 x2 x3 y5 x7 x8 x9 f g n2 p pa s sa sw rp t z = if x9 < x2 then (if jout x9 9 then none else (K_c_chance_39 D d1 x2 x3 (((y5 * 1103515245) + 12345) &&& 2147483647) x7 x8 (x9 + 1) f (jup g 2 ((jup (g 2) (x9.toNatClampNeg) ((((((y5 * 1103515245) + 12345) &&& 2147483647) / 65536) - ((((y5 * 1103515245) + 12345) &&& 2147483647) / 65536) / 10 * 10).toInt32)))) n2 p pa s sa sw rp t z)) else (jbO (K_s_follow20 D f g n2 p pa s sa sw rp t z) (jk D 131 67 ([some (.ref 0), d1, some (.int x2), some (.int x3), some (.ref 44), none, none, some (.int x7), some (.int x8), some (.int x9)], [none, none, none, none, none, some y5, none, none, none, none]) [])) := by
  cases sw
  · refine (jev_blk 3 (pc' := if x9 < x2 then 42 else 62) (L' := ([some (.ref 0), d1, some (.int x2), some (.int x3), some (.ref 44), none, none, some (.int x7), some (.int x8), some (.int x9)], [none, none, none, none, none, some y5, none, none, none, none])) (S' := []) (h' := (jX f g n2 p pa s sa false rp t, z)) rfl).trans (jev_ite.trans (jite_congr (fun _ => ?_) (fun _ => ?_)))
    · refine (jev_blk 17 (pc' := 59) (L' := ([some (.ref 0), d1, some (.int x2), some (.int x3), some (.ref 44), none, none, some (.int x7), some (.int x8), some (.int x9)], [none, none, none, none, none, some (((y5 * 1103515245) + 12345) &&& 2147483647), none, none, none, none])) (S' := [.int ((((((y5 * 1103515245) + 12345) &&& 2147483647) / 65536) - ((((y5 * 1103515245) + 12345) &&& 2147483647) / 65536) / 10 * 10).toInt32), .int x9, .ref 45]) (h' := (jX f g n2 p pa s sa false rp t, z)) rfl).trans ?_
      refine (jev_grd (q := jout x9 9) (pc' := 60) (L' := ([some (.ref 0), d1, some (.int x2), some (.int x3), some (.ref 44), none, none, some (.int x7), some (.int x8), some (.int x9)], [none, none, none, none, none, some (((y5 * 1103515245) + 12345) &&& 2147483647), none, none, none, none])) (S' := []) (h' := (jX f (jup g 2 ((jup (g 2) (x9.toNatClampNeg) ((((((y5 * 1103515245) + 12345) &&& 2147483647) / 65536) - ((((y5 * 1103515245) + 12345) &&& 2147483647) / 65536) / 10 * 10).toInt32)))) n2 p pa s sa false rp t, z)) rfl).trans (jite_congr (fun _ => rfl) (fun _ => ?_))
      exact jev_blk 2 rfl
    · refine (jev_blk 4 (pc' := 66) (L' := ([some (.ref 0), d1, some (.int x2), some (.int x3), some (.ref 44), none, none, some (.int x7), some (.int x8), some (.int x9)], [none, none, none, none, none, some y5, none, none, none, none])) (S' := [.ref 49, .ref 61]) (h' := (jX f g n2 p pa s sa false rp t, z)) rfl).trans ?_
      exact jev_callb (nx := 67) (rest := []) rfl
  · refine (jev_blk 3 (pc' := if x9 < x2 then 42 else 62) (L' := ([some (.ref 0), d1, some (.int x2), some (.int x3), some (.ref 44), none, none, some (.int x7), some (.int x8), some (.int x9)], [none, none, none, none, none, some y5, none, none, none, none])) (S' := []) (h' := (jX f g n2 p pa s sa true rp t, z)) rfl).trans (jev_ite.trans (jite_congr (fun _ => ?_) (fun _ => ?_)))
    · refine (jev_blk 17 (pc' := 59) (L' := ([some (.ref 0), d1, some (.int x2), some (.int x3), some (.ref 44), none, none, some (.int x7), some (.int x8), some (.int x9)], [none, none, none, none, none, some (((y5 * 1103515245) + 12345) &&& 2147483647), none, none, none, none])) (S' := [.int ((((((y5 * 1103515245) + 12345) &&& 2147483647) / 65536) - ((((y5 * 1103515245) + 12345) &&& 2147483647) / 65536) / 10 * 10).toInt32), .int x9, .ref 45]) (h' := (jX f g n2 p pa s sa true rp t, z)) rfl).trans ?_
      refine (jev_grd (q := jout x9 9) (pc' := 60) (L' := ([some (.ref 0), d1, some (.int x2), some (.int x3), some (.ref 44), none, none, some (.int x7), some (.int x8), some (.int x9)], [none, none, none, none, none, some (((y5 * 1103515245) + 12345) &&& 2147483647), none, none, none, none])) (S' := []) (h' := (jX f (jup g 2 ((jup (g 2) (x9.toNatClampNeg) ((((((y5 * 1103515245) + 12345) &&& 2147483647) / 65536) - ((((y5 * 1103515245) + 12345) &&& 2147483647) / 65536) / 10 * 10).toInt32)))) n2 p pa s sa true rp t, z)) rfl).trans (jite_congr (fun _ => rfl) (fun _ => ?_))
      exact jev_blk 2 rfl
    · refine (jev_blk 4 (pc' := 66) (L' := ([some (.ref 0), d1, some (.int x2), some (.int x3), some (.ref 44), none, none, some (.int x7), some (.int x8), some (.int x9)], [none, none, none, none, none, some y5, none, none, none, none])) (S' := [.ref 49, .ref 61]) (h' := (jX f g n2 p pa s sa true rp t, z)) rfl).trans ?_
      exact jev_callb (nx := 67) (rest := []) rfl
set_option maxRecDepth 20000 in
theorem E_c_chance_85 {D : Nat}  {d1 : Option Value} {d2 : Option Value} {d3 : Option Value} {d4 : Option Value} {d5 : Option Value} {e5 : Option Int64} {d6 : Option Value} {x7 : Int32} {d8 : Option Value} {d9 : Option Value} {f : Nat → Int32} {g : Nat → Nat → Int32} {n2 : Nat → Nat → Int64} {p : Nat → Nat → Int32} {pa : Nat → Nat → Nat → Int32} {s : Nat → Nat → Int32} {sa : Nat → Nat → Nat → Int32} {sw : Bool} {rp : Value} {t : List jE} {z : Nat × Nat × Nat × (Nat → Int32)}  : jev D 131 85 ([some (.ref 0), d1, d2, d3, d4, d5, d6, some (.int x7), d8, d9], [none, none, none, none, none, e5, none, none, none, none]) [] (jX f g n2 p pa s sa sw rp t, z) = some (.inl (some (.int x7)), (jX f g n2 p pa s sa sw rp t, z)) := by
  cases sw
  · refine (jev_blk 1 (pc' := 86) (L' := ([some (.ref 0), d1, d2, d3, d4, d5, d6, some (.int x7), d8, d9], [none, none, none, none, none, e5, none, none, none, none])) (S' := [.int x7]) (h' := (jX f g n2 p pa s sa false rp t, z)) rfl).trans ?_
    exact jev_fin rfl
  · refine (jev_blk 1 (pc' := 86) (L' := ([some (.ref 0), d1, d2, d3, d4, d5, d6, some (.int x7), d8, d9], [none, none, none, none, none, e5, none, none, none, none])) (S' := [.int x7]) (h' := (jX f g n2 p pa s sa true rp t, z)) rfl).trans ?_
    exact jev_fin rfl
set_option maxRecDepth 20000 in
theorem E_c_chance_67 {D : Nat}  {d1 : Option Value} {x2 : Int32} {x3 : Int32} {y5 : Int64} {x7 : Int32} {x8 : Int32} {d9 : Option Value} {f : Nat → Int32} {g : Nat → Nat → Int32} {n2 : Nat → Nat → Int64} {p : Nat → Nat → Int32} {pa : Nat → Nat → Nat → Int32} {s : Nat → Nat → Int32} {sa : Nat → Nat → Nat → Int32} {sw : Bool} {rp : Value} {t : List jE} {z : Nat × Nat × Nat × (Nat → Int32)}  : jev D 131 67 ([some (.ref 0), d1, some (.int x2), some (.int x3), some (.ref 44), none, none, some (.int x7), some (.int x8), d9], [none, none, none, none, none, some y5, none, none, none, none]) [] (jX f g n2 p pa s sa sw rp t, z) = jbO (K_h_passDays D 2 (x2 + 1) f g n2 p pa s sa sw rp t z) (jk D 131 75 ([some (.ref 0), d1, some (.int x2), some (.int x3), some (.ref 44), none, none, some (.int x7), some (.int x8), d9], [none, none, none, none, none, some y5, none, none, none, none]) []) := by
  cases sw
  · refine (jev_blk 7 (pc' := 74) (L' := ([some (.ref 0), d1, some (.int x2), some (.int x3), some (.ref 44), none, none, some (.int x7), some (.int x8), d9], [none, none, none, none, none, some y5, none, none, none, none])) (S' := [.int (x2 + 1), .ref 61, .ref 43]) (h' := (jX f g n2 p pa s sa false rp t, z)) rfl).trans ?_
    exact jev_callb (nx := 75) (rest := []) rfl
  · refine (jev_blk 7 (pc' := 74) (L' := ([some (.ref 0), d1, some (.int x2), some (.int x3), some (.ref 44), none, none, some (.int x7), some (.int x8), d9], [none, none, none, none, none, some y5, none, none, none, none])) (S' := [.int (x2 + 1), .ref 61, .ref 43]) (h' := (jX f g n2 p pa s sa true rp t, z)) rfl).trans ?_
    exact jev_callb (nx := 75) (rest := []) rfl
set_option maxRecDepth 20000 in
theorem E_c_chance_75 {D : Nat}  {d1 : Option Value} {x2 : Int32} {x3 : Int32} {y5 : Int64} {x7 : Int32} {x8 : Int32} {d9 : Option Value} {f : Nat → Int32} {g : Nat → Nat → Int32} {n2 : Nat → Nat → Int64} {p : Nat → Nat → Int32} {pa : Nat → Nat → Nat → Int32} {s : Nat → Nat → Int32} {sa : Nat → Nat → Nat → Int32} {sw : Bool} {rp : Value} {t : List jE} {z : Nat × Nat × Nat × (Nat → Int32)}  : jev D 131 75 ([some (.ref 0), d1, some (.int x2), some (.int x3), some (.ref 44), none, none, some (.int x7), some (.int x8), d9], [none, none, none, none, none, some y5, none, none, none, none]) [] (jX f g n2 p pa s sa sw rp t, z) = if (s 2 3) < x3 then (K_c_chance_81 D d1 x2 x3 y5 x7 x8 d9 f g n2 p pa s sa sw rp t z) else (K_c_chance_81 D d1 x2 x3 y5 (x7 + 1) x8 d9 f g n2 p pa s sa sw rp t z) := by
  cases sw
  · refine (jev_blk 5 (pc' := if (s 2 3) < x3 then 81 else 80) (L' := ([some (.ref 0), d1, some (.int x2), some (.int x3), some (.ref 44), none, none, some (.int x7), some (.int x8), d9], [none, none, none, none, none, some y5, none, none, none, none])) (S' := []) (h' := (jX f g n2 p pa s sa false rp t, z)) rfl).trans (jev_ite.trans (jite_congr (fun _ => ?_) (fun _ => ?_)))
    · rfl
    · exact jev_blk 1 rfl
  · refine (jev_blk 5 (pc' := if (s 2 3) < x3 then 81 else 80) (L' := ([some (.ref 0), d1, some (.int x2), some (.int x3), some (.ref 44), none, none, some (.int x7), some (.int x8), d9], [none, none, none, none, none, some y5, none, none, none, none])) (S' := []) (h' := (jX f g n2 p pa s sa true rp t, z)) rfl).trans (jev_ite.trans (jite_congr (fun _ => ?_) (fun _ => ?_)))
    · rfl
    · exact jev_blk 1 rfl
set_option maxRecDepth 20000 in
theorem E_c_chance_81 {D : Nat}  {d1 : Option Value} {x2 : Int32} {x3 : Int32} {y5 : Int64} {x7 : Int32} {x8 : Int32} {d9 : Option Value} {f : Nat → Int32} {g : Nat → Nat → Int32} {n2 : Nat → Nat → Int64} {p : Nat → Nat → Int32} {pa : Nat → Nat → Nat → Int32} {s : Nat → Nat → Int32} {sa : Nat → Nat → Nat → Int32} {sw : Bool} {rp : Value} {t : List jE} {z : Nat × Nat × Nat × (Nat → Int32)}  : K_c_chance_81 D d1 x2 x3 y5 x7 x8 d9 f g n2 p pa s sa sw rp t z = K_c_chance_34 D d1 x2 x3 y5 x7 (x8 + 1) d9 f g n2 p pa s sa sw rp t z := by
  cases sw
  · exact jev_blk 2 rfl
  · exact jev_blk 2 rfl
set_option maxRecDepth 20000 in
theorem E_c_tried {D : Nat}  {a0 : Int32} {a1 : Int32} {a2 : Int32} {f : Nat → Int32} {g : Nat → Nat → Int32} {n2 : Nat → Nat → Int64} {p : Nat → Nat → Int32} {pa : Nat → Nat → Nat → Int32} {s : Nat → Nat → Int32} {sa : Nat → Nat → Nat → Int32} {sw : Bool} {rp : Value} {t : List jE} {z : Nat × Nat × Nat × (Nat → Int32)}  : K_c_tried D a0 a1 a2 f g n2 p pa s sa sw rp t z = if a2 < 1 then (some (.inl (some (.int (-1))), (jX f g n2 p pa s sa sw rp t, z))) else (if 9 < a2 then (some (.inl (some (.int (-1))), (jX f g n2 p pa s sa sw rp t, z))) else (if a0 < 0 then (some (.inl (some (.int (-1))), (jX f g n2 p pa s sa sw rp t, z))) else (if 5 < a0 then (some (.inl (some (.int (-1))), (jX f g n2 p pa s sa sw rp t, z))) else (if a0 = 2 then (jbO (K_p_hasScare D sw a1 f g n2 p pa s sa sw rp t z) (jk D 132 18 ([some (.ref 0), some (.int a0), some (.int a1), some (.int a2), none], []) [])) else (if a1 = 0 then (K_c_tried_24 D a0 a1 a2 none f g n2 p pa s sa sw rp t z) else (some (.inl (some (.int (-1))), (jX f g n2 p pa s sa sw rp t, z)))))))) := by
  cases sw
  · refine (jev_blk 3 (pc' := if a2 < 1 then 22 else 3) (L' := ([some (.ref 0), some (.int a0), some (.int a1), some (.int a2), none], [])) (S' := []) (h' := (jX f g n2 p pa s sa false rp t, z)) rfl).trans (jev_ite.trans (jite_congr (fun _ => ?_) (fun _ => ?_)))
    · refine (jev_blk 1 (pc' := 23) (L' := ([some (.ref 0), some (.int a0), some (.int a1), some (.int a2), none], [])) (S' := [.int (-1)]) (h' := (jX f g n2 p pa s sa false rp t, z)) rfl).trans ?_
      exact jev_fin rfl
    · refine (jev_blk 3 (pc' := if 9 < a2 then 22 else 6) (L' := ([some (.ref 0), some (.int a0), some (.int a1), some (.int a2), none], [])) (S' := []) (h' := (jX f g n2 p pa s sa false rp t, z)) rfl).trans (jev_ite.trans (jite_congr (fun _ => ?_) (fun _ => ?_)))
      · refine (jev_blk 1 (pc' := 23) (L' := ([some (.ref 0), some (.int a0), some (.int a1), some (.int a2), none], [])) (S' := [.int (-1)]) (h' := (jX f g n2 p pa s sa false rp t, z)) rfl).trans ?_
        exact jev_fin rfl
      · refine (jev_blk 2 (pc' := if a0 < 0 then 22 else 8) (L' := ([some (.ref 0), some (.int a0), some (.int a1), some (.int a2), none], [])) (S' := []) (h' := (jX f g n2 p pa s sa false rp t, z)) rfl).trans (jev_ite.trans (jite_congr (fun _ => ?_) (fun _ => ?_)))
        · refine (jev_blk 1 (pc' := 23) (L' := ([some (.ref 0), some (.int a0), some (.int a1), some (.int a2), none], [])) (S' := [.int (-1)]) (h' := (jX f g n2 p pa s sa false rp t, z)) rfl).trans ?_
          exact jev_fin rfl
        · refine (jev_blk 3 (pc' := if 5 < a0 then 22 else 11) (L' := ([some (.ref 0), some (.int a0), some (.int a1), some (.int a2), none], [])) (S' := []) (h' := (jX f g n2 p pa s sa false rp t, z)) rfl).trans (jev_ite.trans (jite_congr (fun _ => ?_) (fun _ => ?_)))
          · refine (jev_blk 1 (pc' := 23) (L' := ([some (.ref 0), some (.int a0), some (.int a1), some (.int a2), none], [])) (S' := [.int (-1)]) (h' := (jX f g n2 p pa s sa false rp t, z)) rfl).trans ?_
            exact jev_fin rfl
          · refine (jev_blk 3 (pc' := if a0 = 2 then 14 else 20) (L' := ([some (.ref 0), some (.int a0), some (.int a1), some (.int a2), none], [])) (S' := []) (h' := (jX f g n2 p pa s sa false rp t, z)) rfl).trans (jev_ite.trans (jite_congr (fun _ => ?_) (fun _ => ?_)))
            · refine (jev_blk 3 (pc' := 17) (L' := ([some (.ref 0), some (.int a0), some (.int a1), some (.int a2), none], [])) (S' := [.int a1, .ref (jpl false)]) (h' := (jX f g n2 p pa s sa false rp t, z)) rfl).trans ?_
              exact jev_callb (nx := 18) (rest := []) rfl
            · refine (jev_blk 2 (pc' := if a1 = 0 then 24 else 22) (L' := ([some (.ref 0), some (.int a0), some (.int a1), some (.int a2), none], [])) (S' := []) (h' := (jX f g n2 p pa s sa false rp t, z)) rfl).trans (jev_ite.trans (jite_congr (fun _ => ?_) (fun _ => ?_)))
              · rfl
              · refine (jev_blk 1 (pc' := 23) (L' := ([some (.ref 0), some (.int a0), some (.int a1), some (.int a2), none], [])) (S' := [.int (-1)]) (h' := (jX f g n2 p pa s sa false rp t, z)) rfl).trans ?_
                exact jev_fin rfl
  · refine (jev_blk 3 (pc' := if a2 < 1 then 22 else 3) (L' := ([some (.ref 0), some (.int a0), some (.int a1), some (.int a2), none], [])) (S' := []) (h' := (jX f g n2 p pa s sa true rp t, z)) rfl).trans (jev_ite.trans (jite_congr (fun _ => ?_) (fun _ => ?_)))
    · refine (jev_blk 1 (pc' := 23) (L' := ([some (.ref 0), some (.int a0), some (.int a1), some (.int a2), none], [])) (S' := [.int (-1)]) (h' := (jX f g n2 p pa s sa true rp t, z)) rfl).trans ?_
      exact jev_fin rfl
    · refine (jev_blk 3 (pc' := if 9 < a2 then 22 else 6) (L' := ([some (.ref 0), some (.int a0), some (.int a1), some (.int a2), none], [])) (S' := []) (h' := (jX f g n2 p pa s sa true rp t, z)) rfl).trans (jev_ite.trans (jite_congr (fun _ => ?_) (fun _ => ?_)))
      · refine (jev_blk 1 (pc' := 23) (L' := ([some (.ref 0), some (.int a0), some (.int a1), some (.int a2), none], [])) (S' := [.int (-1)]) (h' := (jX f g n2 p pa s sa true rp t, z)) rfl).trans ?_
        exact jev_fin rfl
      · refine (jev_blk 2 (pc' := if a0 < 0 then 22 else 8) (L' := ([some (.ref 0), some (.int a0), some (.int a1), some (.int a2), none], [])) (S' := []) (h' := (jX f g n2 p pa s sa true rp t, z)) rfl).trans (jev_ite.trans (jite_congr (fun _ => ?_) (fun _ => ?_)))
        · refine (jev_blk 1 (pc' := 23) (L' := ([some (.ref 0), some (.int a0), some (.int a1), some (.int a2), none], [])) (S' := [.int (-1)]) (h' := (jX f g n2 p pa s sa true rp t, z)) rfl).trans ?_
          exact jev_fin rfl
        · refine (jev_blk 3 (pc' := if 5 < a0 then 22 else 11) (L' := ([some (.ref 0), some (.int a0), some (.int a1), some (.int a2), none], [])) (S' := []) (h' := (jX f g n2 p pa s sa true rp t, z)) rfl).trans (jev_ite.trans (jite_congr (fun _ => ?_) (fun _ => ?_)))
          · refine (jev_blk 1 (pc' := 23) (L' := ([some (.ref 0), some (.int a0), some (.int a1), some (.int a2), none], [])) (S' := [.int (-1)]) (h' := (jX f g n2 p pa s sa true rp t, z)) rfl).trans ?_
            exact jev_fin rfl
          · refine (jev_blk 3 (pc' := if a0 = 2 then 14 else 20) (L' := ([some (.ref 0), some (.int a0), some (.int a1), some (.int a2), none], [])) (S' := []) (h' := (jX f g n2 p pa s sa true rp t, z)) rfl).trans (jev_ite.trans (jite_congr (fun _ => ?_) (fun _ => ?_)))
            · refine (jev_blk 3 (pc' := 17) (L' := ([some (.ref 0), some (.int a0), some (.int a1), some (.int a2), none], [])) (S' := [.int a1, .ref (jpl true)]) (h' := (jX f g n2 p pa s sa true rp t, z)) rfl).trans ?_
              exact jev_callb (nx := 18) (rest := []) rfl
            · refine (jev_blk 2 (pc' := if a1 = 0 then 24 else 22) (L' := ([some (.ref 0), some (.int a0), some (.int a1), some (.int a2), none], [])) (S' := []) (h' := (jX f g n2 p pa s sa true rp t, z)) rfl).trans (jev_ite.trans (jite_congr (fun _ => ?_) (fun _ => ?_)))
              · rfl
              · refine (jev_blk 1 (pc' := 23) (L' := ([some (.ref 0), some (.int a0), some (.int a1), some (.int a2), none], [])) (S' := [.int (-1)]) (h' := (jX f g n2 p pa s sa true rp t, z)) rfl).trans ?_
                exact jev_fin rfl
set_option maxRecDepth 20000 in
theorem E_c_tried_24 {D : Nat}  {x1 : Int32} {x2 : Int32} {x3 : Int32} {d4 : Option Value} {f : Nat → Int32} {g : Nat → Nat → Int32} {n2 : Nat → Nat → Int64} {p : Nat → Nat → Int32} {pa : Nat → Nat → Nat → Int32} {s : Nat → Nat → Int32} {sa : Nat → Nat → Nat → Int32} {sw : Bool} {rp : Value} {t : List jE} {z : Nat × Nat × Nat × (Nat → Int32)}  : K_c_tried_24 D x1 x2 x3 d4 f g n2 p pa s sa sw rp t z = jbO (K_s_follow20 D f g n2 p pa s sa sw rp t z) (jk D 132 33 ([some (.ref 0), some (.int x1), some (.int x2), some (.int x3), some (.ref 44)], []) []) := by
  cases sw
  · refine (jev_blk 8 (pc' := 32) (L' := ([some (.ref 0), some (.int x1), some (.int x2), some (.int x3), some (.ref 44)], [])) (S' := [.ref 49, .ref 61]) (h' := (jX f g n2 p pa s sa false rp t, z)) rfl).trans ?_
    exact jev_callb (nx := 33) (rest := []) rfl
  · refine (jev_blk 8 (pc' := 32) (L' := ([some (.ref 0), some (.int x1), some (.int x2), some (.int x3), some (.ref 44)], [])) (S' := [.ref 49, .ref 61]) (h' := (jX f g n2 p pa s sa true rp t, z)) rfl).trans ?_
    exact jev_callb (nx := 33) (rest := []) rfl
set_option maxRecDepth 20000 in
theorem E_c_tried_18 {D : Nat}  {x1 : Int32} {x2 : Int32} {x3 : Int32} {d4 : Option Value} {u0 : Int32} {f : Nat → Int32} {g : Nat → Nat → Int32} {n2 : Nat → Nat → Int64} {p : Nat → Nat → Int32} {pa : Nat → Nat → Nat → Int32} {s : Nat → Nat → Int32} {sa : Nat → Nat → Nat → Int32} {sw : Bool} {rp : Value} {t : List jE} {z : Nat × Nat × Nat × (Nat → Int32)}  : jev D 132 18 ([some (.ref 0), some (.int x1), some (.int x2), some (.int x3), d4], []) [.int u0] (jX f g n2 p pa s sa sw rp t, z) = if u0 = 0 then (some (.inl (some (.int (-1))), (jX f g n2 p pa s sa sw rp t, z))) else (K_c_tried_24 D x1 x2 x3 d4 f g n2 p pa s sa sw rp t z) := by
  cases sw
  · refine (jev_blk 1 (pc' := if u0 = 0 then 19 else 24) (L' := ([some (.ref 0), some (.int x1), some (.int x2), some (.int x3), d4], [])) (S' := []) (h' := (jX f g n2 p pa s sa false rp t, z)) rfl).trans (jev_ite.trans (jite_congr (fun _ => ?_) (fun _ => ?_)))
    · refine (jev_blk 2 (pc' := 23) (L' := ([some (.ref 0), some (.int x1), some (.int x2), some (.int x3), d4], [])) (S' := [.int (-1)]) (h' := (jX f g n2 p pa s sa false rp t, z)) rfl).trans ?_
      exact jev_fin rfl
    · rfl
  · refine (jev_blk 1 (pc' := if u0 = 0 then 19 else 24) (L' := ([some (.ref 0), some (.int x1), some (.int x2), some (.int x3), d4], [])) (S' := []) (h' := (jX f g n2 p pa s sa true rp t, z)) rfl).trans (jev_ite.trans (jite_congr (fun _ => ?_) (fun _ => ?_)))
    · refine (jev_blk 2 (pc' := 23) (L' := ([some (.ref 0), some (.int x1), some (.int x2), some (.int x3), d4], [])) (S' := [.int (-1)]) (h' := (jX f g n2 p pa s sa true rp t, z)) rfl).trans ?_
      exact jev_fin rfl
    · rfl
set_option maxRecDepth 20000 in
theorem E_c_tried_33 {D : Nat}  {x1 : Int32} {x2 : Int32} {x3 : Int32} {f : Nat → Int32} {g : Nat → Nat → Int32} {n2 : Nat → Nat → Int64} {p : Nat → Nat → Int32} {pa : Nat → Nat → Nat → Int32} {s : Nat → Nat → Int32} {sa : Nat → Nat → Nat → Int32} {sw : Bool} {rp : Value} {t : List jE} {z : Nat × Nat × Nat × (Nat → Int32)}  : jev D 132 33 ([some (.ref 0), some (.int x1), some (.int x2), some (.int x3), some (.ref 44)], []) [] (jX f g n2 p pa s sa sw rp t, z) = if x1 = 0 then (K_c_tried_39 D x1 x2 x3 1 f g n2 p pa s sa sw rp t z) else (K_c_tried_39 D x1 x2 x3 0 f g n2 p pa s sa sw rp t z) := by
  cases sw
  · refine (jev_blk 3 (pc' := if x1 = 0 then 36 else 38) (L' := ([some (.ref 0), some (.int x1), some (.int x2), some (.int x3), some (.ref 44)], [])) (S' := [.ref 44]) (h' := (jX f g n2 p pa s sa false rp t, z)) rfl).trans (jev_ite.trans (jite_congr (fun _ => ?_) (fun _ => ?_)))
    · exact jev_blk 2 rfl
    · exact jev_blk 1 rfl
  · refine (jev_blk 3 (pc' := if x1 = 0 then 36 else 38) (L' := ([some (.ref 0), some (.int x1), some (.int x2), some (.int x3), some (.ref 44)], [])) (S' := [.ref 44]) (h' := (jX f g n2 p pa s sa true rp t, z)) rfl).trans (jev_ite.trans (jite_congr (fun _ => ?_) (fun _ => ?_)))
    · exact jev_blk 2 rfl
    · exact jev_blk 1 rfl
set_option maxRecDepth 20000 in
theorem E_c_tried_39 {D : Nat}  {x1 : Int32} {x2 : Int32} {x3 : Int32} {u0 : Int32} {f : Nat → Int32} {g : Nat → Nat → Int32} {n2 : Nat → Nat → Int64} {p : Nat → Nat → Int32} {pa : Nat → Nat → Nat → Int32} {s : Nat → Nat → Int32} {sa : Nat → Nat → Nat → Int32} {sw : Bool} {rp : Value} {t : List jE} {z : Nat × Nat × Nat × (Nat → Int32)}  : K_c_tried_39 D x1 x2 x3 u0 f g n2 p pa s sa sw rp t z = if u0 = 0 ∨ u0 = 1 then (if x1 = 1 then (K_c_tried_50 D x1 x2 x3 63 (jup f 16 (u0)) g n2 p pa s sa sw rp t z) else (K_c_tried_50 D x1 x2 x3 (s 2 2) (jup f 16 (u0)) g n2 p pa s sa sw rp t z)) else none := by
  cases sw
  · refine (jev_grp (q := u0 = 0 ∨ u0 = 1) (pc' := 40) (L' := ([some (.ref 0), some (.int x1), some (.int x2), some (.int x3), some (.ref 44)], [])) (S' := []) (h' := (jX (jup f 16 (u0)) g n2 p pa s sa false rp t, z)) rfl).trans (jite_congr (fun _ => ?_) (fun _ => rfl))
    refine (jev_blk 5 (pc' := if x1 = 1 then 45 else 47) (L' := ([some (.ref 0), some (.int x1), some (.int x2), some (.int x3), some (.ref 44)], [])) (S' := [.ref 61]) (h' := (jX (jup f 16 (u0)) g n2 p pa s sa false rp t, z)) rfl).trans (jev_ite.trans (jite_congr (fun _ => ?_) (fun _ => ?_)))
    · exact jev_blk 2 rfl
    · exact jev_blk 3 rfl
  · refine (jev_grp (q := u0 = 0 ∨ u0 = 1) (pc' := 40) (L' := ([some (.ref 0), some (.int x1), some (.int x2), some (.int x3), some (.ref 44)], [])) (S' := []) (h' := (jX (jup f 16 (u0)) g n2 p pa s sa true rp t, z)) rfl).trans (jite_congr (fun _ => ?_) (fun _ => rfl))
    refine (jev_blk 5 (pc' := if x1 = 1 then 45 else 47) (L' := ([some (.ref 0), some (.int x1), some (.int x2), some (.int x3), some (.ref 44)], [])) (S' := [.ref 61]) (h' := (jX (jup f 16 (u0)) g n2 p pa s sa true rp t, z)) rfl).trans (jev_ite.trans (jite_congr (fun _ => ?_) (fun _ => ?_)))
    · exact jev_blk 2 rfl
    · exact jev_blk 3 rfl
set_option maxRecDepth 20000 in
theorem E_c_tried_50 {D : Nat}  {x1 : Int32} {x2 : Int32} {x3 : Int32} {u0 : Int32} {f : Nat → Int32} {g : Nat → Nat → Int32} {n2 : Nat → Nat → Int64} {p : Nat → Nat → Int32} {pa : Nat → Nat → Nat → Int32} {s : Nat → Nat → Int32} {sa : Nat → Nat → Nat → Int32} {sw : Bool} {rp : Value} {t : List jE} {z : Nat × Nat × Nat × (Nat → Int32)}  : K_c_tried_50 D x1 x2 x3 u0 f g n2 p pa s sa sw rp t z = if x1 = 2 then (K_c_tried_60 D x1 (some (.int x2)) x3 (1 <<< (x2 &&& 31)) f g n2 p pa (jup s 2 (jup (s 2) 2 (u0))) sa sw rp t z) else (K_c_tried_60 D x1 (some (.int x2)) x3 0 f g n2 p pa (jup s 2 (jup (s 2) 2 (u0))) sa sw rp t z) := by
  cases sw
  · refine (jev_blk 5 (pc' := if x1 = 2 then 55 else 59) (L' := ([some (.ref 0), some (.int x1), some (.int x2), some (.int x3), some (.ref 44)], [])) (S' := [.ref 44]) (h' := (jX f g n2 p pa (jup s 2 (jup (s 2) 2 (u0))) sa false rp t, z)) rfl).trans (jev_ite.trans (jite_congr (fun _ => ?_) (fun _ => ?_)))
    · exact jev_blk 4 rfl
    · exact jev_blk 1 rfl
  · refine (jev_blk 5 (pc' := if x1 = 2 then 55 else 59) (L' := ([some (.ref 0), some (.int x1), some (.int x2), some (.int x3), some (.ref 44)], [])) (S' := [.ref 44]) (h' := (jX f g n2 p pa (jup s 2 (jup (s 2) 2 (u0))) sa true rp t, z)) rfl).trans (jev_ite.trans (jite_congr (fun _ => ?_) (fun _ => ?_)))
    · exact jev_blk 4 rfl
    · exact jev_blk 1 rfl
set_option maxRecDepth 20000 in
theorem E_c_tried_60 {D : Nat}  {x1 : Int32} {d2 : Option Value} {x3 : Int32} {u0 : Int32} {f : Nat → Int32} {g : Nat → Nat → Int32} {n2 : Nat → Nat → Int64} {p : Nat → Nat → Int32} {pa : Nat → Nat → Nat → Int32} {s : Nat → Nat → Int32} {sa : Nat → Nat → Nat → Int32} {sw : Bool} {rp : Value} {t : List jE} {z : Nat × Nat × Nat × (Nat → Int32)}  : K_c_tried_60 D x1 d2 x3 u0 f g n2 p pa s sa sw rp t z = if x1 = 3 then (K_c_tried_68 D x1 d2 x3 1 (jup f 17 (u0)) g n2 p pa s sa sw rp t z) else (K_c_tried_68 D x1 d2 x3 0 (jup f 17 (u0)) g n2 p pa s sa sw rp t z) := by
  cases sw
  · refine (jev_blk 5 (pc' := if x1 = 3 then 65 else 67) (L' := ([some (.ref 0), some (.int x1), d2, some (.int x3), some (.ref 44)], [])) (S' := [.ref 44]) (h' := (jX (jup f 17 (u0)) g n2 p pa s sa false rp t, z)) rfl).trans (jev_ite.trans (jite_congr (fun _ => ?_) (fun _ => ?_)))
    · exact jev_blk 2 rfl
    · exact jev_blk 1 rfl
  · refine (jev_blk 5 (pc' := if x1 = 3 then 65 else 67) (L' := ([some (.ref 0), some (.int x1), d2, some (.int x3), some (.ref 44)], [])) (S' := [.ref 44]) (h' := (jX (jup f 17 (u0)) g n2 p pa s sa true rp t, z)) rfl).trans (jev_ite.trans (jite_congr (fun _ => ?_) (fun _ => ?_)))
    · exact jev_blk 2 rfl
    · exact jev_blk 1 rfl
set_option maxRecDepth 20000 in
theorem E_c_tried_68 {D : Nat}  {x1 : Int32} {d2 : Option Value} {x3 : Int32} {u0 : Int32} {f : Nat → Int32} {g : Nat → Nat → Int32} {n2 : Nat → Nat → Int64} {p : Nat → Nat → Int32} {pa : Nat → Nat → Nat → Int32} {s : Nat → Nat → Int32} {sa : Nat → Nat → Nat → Int32} {sw : Bool} {rp : Value} {t : List jE} {z : Nat × Nat × Nat × (Nat → Int32)}  : K_c_tried_68 D x1 d2 x3 u0 f g n2 p pa s sa sw rp t z = if x1 = 4 then (K_c_tried_76 D x1 d2 x3 1 (jup f 18 (u0)) g n2 p pa s sa sw rp t z) else (K_c_tried_76 D x1 d2 x3 0 (jup f 18 (u0)) g n2 p pa s sa sw rp t z) := by
  cases sw
  · refine (jev_blk 5 (pc' := if x1 = 4 then 73 else 75) (L' := ([some (.ref 0), some (.int x1), d2, some (.int x3), some (.ref 44)], [])) (S' := [.ref 44]) (h' := (jX (jup f 18 (u0)) g n2 p pa s sa false rp t, z)) rfl).trans (jev_ite.trans (jite_congr (fun _ => ?_) (fun _ => ?_)))
    · exact jev_blk 2 rfl
    · exact jev_blk 1 rfl
  · refine (jev_blk 5 (pc' := if x1 = 4 then 73 else 75) (L' := ([some (.ref 0), some (.int x1), d2, some (.int x3), some (.ref 44)], [])) (S' := [.ref 44]) (h' := (jX (jup f 18 (u0)) g n2 p pa s sa true rp t, z)) rfl).trans (jev_ite.trans (jite_congr (fun _ => ?_) (fun _ => ?_)))
    · exact jev_blk 2 rfl
    · exact jev_blk 1 rfl
set_option maxRecDepth 20000 in
theorem E_c_tried_76 {D : Nat}  {x1 : Int32} {d2 : Option Value} {x3 : Int32} {u0 : Int32} {f : Nat → Int32} {g : Nat → Nat → Int32} {n2 : Nat → Nat → Int64} {p : Nat → Nat → Int32} {pa : Nat → Nat → Nat → Int32} {s : Nat → Nat → Int32} {sa : Nat → Nat → Nat → Int32} {sw : Bool} {rp : Value} {t : List jE} {z : Nat × Nat × Nat × (Nat → Int32)}  : K_c_tried_76 D x1 d2 x3 u0 f g n2 p pa s sa sw rp t z = if u0 = 0 ∨ u0 = 1 then (if x1 = 5 then (K_c_tried_84 D (some (.int x1)) d2 x3 1 (jup f 19 (u0)) g n2 p pa s sa sw rp t z) else (K_c_tried_84 D (some (.int x1)) d2 x3 0 (jup f 19 (u0)) g n2 p pa s sa sw rp t z)) else none := by
  cases sw
  · refine (jev_grp (q := u0 = 0 ∨ u0 = 1) (pc' := 77) (L' := ([some (.ref 0), some (.int x1), d2, some (.int x3), some (.ref 44)], [])) (S' := []) (h' := (jX (jup f 19 (u0)) g n2 p pa s sa false rp t, z)) rfl).trans (jite_congr (fun _ => ?_) (fun _ => rfl))
    refine (jev_blk 4 (pc' := if x1 = 5 then 81 else 83) (L' := ([some (.ref 0), some (.int x1), d2, some (.int x3), some (.ref 44)], [])) (S' := [.ref 44]) (h' := (jX (jup f 19 (u0)) g n2 p pa s sa false rp t, z)) rfl).trans (jev_ite.trans (jite_congr (fun _ => ?_) (fun _ => ?_)))
    · exact jev_blk 2 rfl
    · exact jev_blk 1 rfl
  · refine (jev_grp (q := u0 = 0 ∨ u0 = 1) (pc' := 77) (L' := ([some (.ref 0), some (.int x1), d2, some (.int x3), some (.ref 44)], [])) (S' := []) (h' := (jX (jup f 19 (u0)) g n2 p pa s sa true rp t, z)) rfl).trans (jite_congr (fun _ => ?_) (fun _ => rfl))
    refine (jev_blk 4 (pc' := if x1 = 5 then 81 else 83) (L' := ([some (.ref 0), some (.int x1), d2, some (.int x3), some (.ref 44)], [])) (S' := [.ref 44]) (h' := (jX (jup f 19 (u0)) g n2 p pa s sa true rp t, z)) rfl).trans (jev_ite.trans (jite_congr (fun _ => ?_) (fun _ => ?_)))
    · exact jev_blk 2 rfl
    · exact jev_blk 1 rfl
set_option maxRecDepth 20000 in
theorem E_c_tried_84 {D : Nat}  {d1 : Option Value} {d2 : Option Value} {x3 : Int32} {u0 : Int32} {f : Nat → Int32} {g : Nat → Nat → Int32} {n2 : Nat → Nat → Int64} {p : Nat → Nat → Int32} {pa : Nat → Nat → Nat → Int32} {s : Nat → Nat → Int32} {sa : Nat → Nat → Nat → Int32} {sw : Bool} {rp : Value} {t : List jE} {z : Nat × Nat × Nat × (Nat → Int32)}  : K_c_tried_84 D d1 d2 x3 u0 f g n2 p pa s sa sw rp t z = if u0 = 0 ∨ u0 = 1 then (jbO (K_h_passDays D 2 x3 (jup f 20 (u0)) g n2 p pa s sa sw rp t z) (jk D 132 91 ([some (.ref 0), d1, d2, some (.int x3), some (.ref 44)], []) [])) else none := by
  cases sw
  · refine (jev_grp (q := u0 = 0 ∨ u0 = 1) (pc' := 85) (L' := ([some (.ref 0), d1, d2, some (.int x3), some (.ref 44)], [])) (S' := []) (h' := (jX (jup f 20 (u0)) g n2 p pa s sa false rp t, z)) rfl).trans (jite_congr (fun _ => ?_) (fun _ => rfl))
    refine (jev_blk 5 (pc' := 90) (L' := ([some (.ref 0), d1, d2, some (.int x3), some (.ref 44)], [])) (S' := [.int x3, .ref 61, .ref 43]) (h' := (jX (jup f 20 (u0)) g n2 p pa s sa false rp t, z)) rfl).trans ?_
    exact jev_callb (nx := 91) (rest := []) rfl
  · refine (jev_grp (q := u0 = 0 ∨ u0 = 1) (pc' := 85) (L' := ([some (.ref 0), d1, d2, some (.int x3), some (.ref 44)], [])) (S' := []) (h' := (jX (jup f 20 (u0)) g n2 p pa s sa true rp t, z)) rfl).trans (jite_congr (fun _ => ?_) (fun _ => rfl))
    refine (jev_blk 5 (pc' := 90) (L' := ([some (.ref 0), d1, d2, some (.int x3), some (.ref 44)], [])) (S' := [.int x3, .ref 61, .ref 43]) (h' := (jX (jup f 20 (u0)) g n2 p pa s sa true rp t, z)) rfl).trans ?_
    exact jev_callb (nx := 91) (rest := []) rfl
set_option maxRecDepth 20000 in
theorem E_c_tried_91 {D : Nat}  {d1 : Option Value} {d2 : Option Value} {d3 : Option Value} {f : Nat → Int32} {g : Nat → Nat → Int32} {n2 : Nat → Nat → Int64} {p : Nat → Nat → Int32} {pa : Nat → Nat → Nat → Int32} {s : Nat → Nat → Int32} {sa : Nat → Nat → Nat → Int32} {sw : Bool} {rp : Value} {t : List jE} {z : Nat × Nat × Nat × (Nat → Int32)}  : jev D 132 91 ([some (.ref 0), d1, d2, d3, some (.ref 44)], []) [] (jX f g n2 p pa s sa sw rp t, z) = jbO (K_q_clear D f g n2 p pa s sa sw rp t z) (jk D 132 93 ([some (.ref 0), d1, d2, d3, some (.ref 44)], []) []) := by
  cases sw
  · refine (jev_blk 1 (pc' := 92) (L' := ([some (.ref 0), d1, d2, d3, some (.ref 44)], [])) (S' := [.ref 44]) (h' := (jX f g n2 p pa s sa false rp t, z)) rfl).trans ?_
    exact jev_callb (nx := 93) (rest := []) rfl
  · refine (jev_blk 1 (pc' := 92) (L' := ([some (.ref 0), d1, d2, d3, some (.ref 44)], [])) (S' := [.ref 44]) (h' := (jX f g n2 p pa s sa true rp t, z)) rfl).trans ?_
    exact jev_callb (nx := 93) (rest := []) rfl
set_option maxRecDepth 20000 in
theorem E_c_tried_93 {D : Nat}  {d1 : Option Value} {d2 : Option Value} {d3 : Option Value} {d4 : Option Value} {f : Nat → Int32} {g : Nat → Nat → Int32} {n2 : Nat → Nat → Int64} {p : Nat → Nat → Int32} {pa : Nat → Nat → Nat → Int32} {s : Nat → Nat → Int32} {sa : Nat → Nat → Nat → Int32} {sw : Bool} {rp : Value} {t : List jE} {z : Nat × Nat × Nat × (Nat → Int32)}  : jev D 132 93 ([some (.ref 0), d1, d2, d3, d4], []) [] (jX f g n2 p pa s sa sw rp t, z) = some (.inl (some (.int (s 2 3))), (jX f g n2 p pa s sa sw rp t, z)) := by
  cases sw
  · refine (jev_blk 3 (pc' := 96) (L' := ([some (.ref 0), d1, d2, d3, d4], [])) (S' := [.int (s 2 3)]) (h' := (jX f g n2 p pa s sa false rp t, z)) rfl).trans ?_
    exact jev_fin rfl
  · refine (jev_blk 3 (pc' := 96) (L' := ([some (.ref 0), d1, d2, d3, d4], [])) (S' := [.int (s 2 3)]) (h' := (jX f g n2 p pa s sa true rp t, z)) rfl).trans ?_
    exact jev_fin rfl
set_option maxRecDepth 20000 in
theorem E_c_undo {D : Nat}   {f : Nat → Int32} {g : Nat → Nat → Int32} {n2 : Nat → Nat → Int64} {p : Nat → Nat → Int32} {pa : Nat → Nat → Nat → Int32} {s : Nat → Nat → Int32} {sa : Nat → Nat → Nat → Int32} {sw : Bool} {rp : Value} {t : List jE} {z : Nat × Nat × Nat × (Nat → Int32)}  : K_c_undo D f g n2 p pa s sa sw rp t z = jbO (K_t_revert D 0 f g n2 p pa s sa sw rp t z) (jk D 133 5 ([some (.ref 0)], []) []) := by
  cases sw
  · refine (jev_blk 4 (pc' := 4) (L' := ([some (.ref 0)], [])) (S' := [.ref 49, .ref 67]) (h' := (jX f g n2 p pa s sa false rp t, z)) rfl).trans ?_
    exact jev_callb (nx := 5) (rest := []) rfl
  · refine (jev_blk 4 (pc' := 4) (L' := ([some (.ref 0)], [])) (S' := [.ref 49, .ref 67]) (h' := (jX f g n2 p pa s sa true rp t, z)) rfl).trans ?_
    exact jev_callb (nx := 5) (rest := []) rfl
set_option maxRecDepth 20000 in
theorem E_c_undo_5 {D : Nat}  {u0 : Int32} {f : Nat → Int32} {g : Nat → Nat → Int32} {n2 : Nat → Nat → Int64} {p : Nat → Nat → Int32} {pa : Nat → Nat → Nat → Int32} {s : Nat → Nat → Int32} {sa : Nat → Nat → Nat → Int32} {sw : Bool} {rp : Value} {t : List jE} {z : Nat × Nat × Nat × (Nat → Int32)}  : jev D 133 5 ([some (.ref 0)], []) [.int u0] (jX f g n2 p pa s sa sw rp t, z) = if u0 = 0 then (some (.inl (some (.int (-1))), (jX f g n2 p pa s sa sw rp t, z))) else (some (.inl (some (.int (f 23))), (jX f g n2 p pa s sa sw rp t, z))) := by
  cases sw
  · refine (jev_blk 1 (pc' := if u0 = 0 then 10 else 6) (L' := ([some (.ref 0)], [])) (S' := []) (h' := (jX f g n2 p pa s sa false rp t, z)) rfl).trans (jev_ite.trans (jite_congr (fun _ => ?_) (fun _ => ?_)))
    · refine (jev_blk 1 (pc' := 11) (L' := ([some (.ref 0)], [])) (S' := [.int (-1)]) (h' := (jX f g n2 p pa s sa false rp t, z)) rfl).trans ?_
      exact jev_fin rfl
    · refine (jev_blk 4 (pc' := 11) (L' := ([some (.ref 0)], [])) (S' := [.int (f 23)]) (h' := (jX f g n2 p pa s sa false rp t, z)) rfl).trans ?_
      exact jev_fin rfl
  · refine (jev_blk 1 (pc' := if u0 = 0 then 10 else 6) (L' := ([some (.ref 0)], [])) (S' := []) (h' := (jX f g n2 p pa s sa true rp t, z)) rfl).trans (jev_ite.trans (jite_congr (fun _ => ?_) (fun _ => ?_)))
    · refine (jev_blk 1 (pc' := 11) (L' := ([some (.ref 0)], [])) (S' := [.int (-1)]) (h' := (jX f g n2 p pa s sa true rp t, z)) rfl).trans ?_
      exact jev_fin rfl
    · refine (jev_blk 4 (pc' := 11) (L' := ([some (.ref 0)], [])) (S' := [.int (f 23)]) (h' := (jX f g n2 p pa s sa true rp t, z)) rfl).trans ?_
      exact jev_fin rfl
set_option maxRecDepth 20000 in
theorem E_c_keep {D : Nat}   {f : Nat → Int32} {g : Nat → Nat → Int32} {n2 : Nat → Nat → Int64} {p : Nat → Nat → Int32} {pa : Nat → Nat → Nat → Int32} {s : Nat → Nat → Int32} {sa : Nat → Nat → Nat → Int32} {sw : Bool} {rp : Value} {t : List jE} {z : Nat × Nat × Nat × (Nat → Int32)}  : K_c_keep D f g n2 p pa s sa sw rp t z = jbO (K_s_copy10 D f g n2 p pa s sa sw rp t z) (jk D 134 5 ([some (.ref 0)], []) []) := by
  cases sw
  · refine (jev_blk 4 (pc' := 4) (L' := ([some (.ref 0)], [])) (S' := [.ref 49, .ref 55]) (h' := (jX f g n2 p pa s sa false rp t, z)) rfl).trans ?_
    exact jev_callb (nx := 5) (rest := []) rfl
  · refine (jev_blk 4 (pc' := 4) (L' := ([some (.ref 0)], [])) (S' := [.ref 49, .ref 55]) (h' := (jX f g n2 p pa s sa true rp t, z)) rfl).trans ?_
    exact jev_callb (nx := 5) (rest := []) rfl
set_option maxRecDepth 20000 in
theorem E_c_keep_5 {D : Nat}   {f : Nat → Int32} {g : Nat → Nat → Int32} {n2 : Nat → Nat → Int64} {p : Nat → Nat → Int32} {pa : Nat → Nat → Nat → Int32} {s : Nat → Nat → Int32} {sa : Nat → Nat → Nat → Int32} {sw : Bool} {rp : Value} {t : List jE} {z : Nat × Nat × Nat × (Nat → Int32)}  : jev D 134 5 ([some (.ref 0)], []) [] (jX f g n2 p pa s sa sw rp t, z) = some (.inl (some (.int (s 0 0))), (jX (jup f 1 (1)) g n2 p pa s sa sw rp t, z)) := by
  cases sw
  · refine (jev_blk 6 (pc' := 11) (L' := ([some (.ref 0)], [])) (S' := [.int (s 0 0)]) (h' := (jX (jup f 1 (1)) g n2 p pa s sa false rp t, z)) rfl).trans ?_
    exact jev_fin rfl
  · refine (jev_blk 6 (pc' := 11) (L' := ([some (.ref 0)], [])) (S' := [.int (s 0 0)]) (h' := (jX (jup f 1 (1)) g n2 p pa s sa true rp t, z)) rfl).trans ?_
    exact jev_fin rfl
set_option maxRecDepth 20000 in
theorem E_c_back {D : Nat}   {f : Nat → Int32} {g : Nat → Nat → Int32} {n2 : Nat → Nat → Int64} {p : Nat → Nat → Int32} {pa : Nat → Nat → Nat → Int32} {s : Nat → Nat → Int32} {sa : Nat → Nat → Nat → Int32} {sw : Bool} {rp : Value} {t : List jE} {z : Nat × Nat × Nat × (Nat → Int32)}  : K_c_back D f g n2 p pa s sa sw rp t z = if (f 1) = 0 then (some (.inl (some (.int (-1))), (jX f g n2 p pa s sa sw rp t, z))) else (jbO (K_s_copy01 D f g n2 p pa s sa sw rp t z) (jk D 135 10 ([some (.ref 0)], []) [])) := by
  cases sw
  · refine (jev_blk 3 (pc' := if (f 1) = 0 then 3 else 5) (L' := ([some (.ref 0)], [])) (S' := []) (h' := (jX f g n2 p pa s sa false rp t, z)) rfl).trans (jev_ite.trans (jite_congr (fun _ => ?_) (fun _ => ?_)))
    · refine (jev_blk 1 (pc' := 4) (L' := ([some (.ref 0)], [])) (S' := [.int (-1)]) (h' := (jX f g n2 p pa s sa false rp t, z)) rfl).trans ?_
      exact jev_fin rfl
    · refine (jev_blk 4 (pc' := 9) (L' := ([some (.ref 0)], [])) (S' := [.ref 55, .ref 49]) (h' := (jX f g n2 p pa s sa false rp t, z)) rfl).trans ?_
      exact jev_callb (nx := 10) (rest := []) rfl
  · refine (jev_blk 3 (pc' := if (f 1) = 0 then 3 else 5) (L' := ([some (.ref 0)], [])) (S' := []) (h' := (jX f g n2 p pa s sa true rp t, z)) rfl).trans (jev_ite.trans (jite_congr (fun _ => ?_) (fun _ => ?_)))
    · refine (jev_blk 1 (pc' := 4) (L' := ([some (.ref 0)], [])) (S' := [.int (-1)]) (h' := (jX f g n2 p pa s sa true rp t, z)) rfl).trans ?_
      exact jev_fin rfl
    · refine (jev_blk 4 (pc' := 9) (L' := ([some (.ref 0)], [])) (S' := [.ref 55, .ref 49]) (h' := (jX f g n2 p pa s sa true rp t, z)) rfl).trans ?_
      exact jev_callb (nx := 10) (rest := []) rfl
set_option maxRecDepth 20000 in
theorem E_c_back_10 {D : Nat}   {f : Nat → Int32} {g : Nat → Nat → Int32} {n2 : Nat → Nat → Int64} {p : Nat → Nat → Int32} {pa : Nat → Nat → Nat → Int32} {s : Nat → Nat → Int32} {sa : Nat → Nat → Nat → Int32} {sw : Bool} {rp : Value} {t : List jE} {z : Nat × Nat × Nat × (Nat → Int32)}  : jev D 135 10 ([some (.ref 0)], []) [] (jX f g n2 p pa s sa sw rp t, z) = some (.inl (some (.int (s 0 0))), (jX (jup f 23 (0)) g n2 p pa s sa sw rp t, z)) := by
  cases sw
  · refine (jev_blk 7 (pc' := 17) (L' := ([some (.ref 0)], [])) (S' := [.int (s 0 0)]) (h' := (jX (jup f 23 (0)) g n2 p pa s sa false rp t, z)) rfl).trans ?_
    exact jev_fin rfl
  · refine (jev_blk 7 (pc' := 17) (L' := ([some (.ref 0)], [])) (S' := [.int (s 0 0)]) (h' := (jX (jup f 23 (0)) g n2 p pa s sa true rp t, z)) rfl).trans ?_
    exact jev_fin rfl
set_option maxRecDepth 20000 in
theorem E_c_count {D : Nat}  {a0 : Int32} {f : Nat → Int32} {g : Nat → Nat → Int32} {n2 : Nat → Nat → Int64} {p : Nat → Nat → Int32} {pa : Nat → Nat → Nat → Int32} {s : Nat → Nat → Int32} {sa : Nat → Nat → Nat → Int32} {sw : Bool} {rp : Value} {t : List jE} {z : Nat × Nat × Nat × (Nat → Int32)}  : K_c_count D a0 f g n2 p pa s sa sw rp t z = if a0 = 0 then (some (.inl (some (.int (p (jq sw) 1))), (jX f g n2 p pa s sa sw rp t, z))) else (if a0 = 1 then (some (.inl (some (.int (p (jq sw) 2))), (jX f g n2 p pa s sa sw rp t, z))) else (if a0 = 2 then (some (.inl (some (.int (p (jq sw) 3))), (jX f g n2 p pa s sa sw rp t, z))) else (if a0 = 3 then (some (.inl (some (.int (p (jq sw) 4))), (jX f g n2 p pa s sa sw rp t, z))) else (if a0 = 4 then (some (.inl (some (.int (p (jq sw) 5))), (jX f g n2 p pa s sa sw rp t, z))) else (if a0 = 5 then (some (.inl (some (.int (p (jq sw) 9))), (jX f g n2 p pa s sa sw rp t, z))) else (if a0 = 6 then (some (.inl (some (.int (s 0 1))), (jX f g n2 p pa s sa sw rp t, z))) else (if a0 = 7 then (some (.inl (some (.int (s 0 0))), (jX f g n2 p pa s sa sw rp t, z))) else (jbO (K_c_countMore D a0 f g n2 p pa s sa sw rp t z) (jk D 136 37 ([some (.ref 0), some (.int a0)], []) []))))))))) := by
  cases sw
  · refine (jev_blk 2 (pc' := if a0 = 0 then 2 else if a0 = 1 then 6 else if a0 = 2 then 10 else if a0 = 3 then 14 else if a0 = 4 then 18 else if a0 = 5 then 22 else if a0 = 6 then 26 else if a0 = 7 then 30 else 34) (L' := ([some (.ref 0), some (.int a0)], [])) (S' := []) (h' := (jX f g n2 p pa s sa false rp t, z)) rfl).trans ?_
    refine jev_ite.trans (jite_congr (fun _ => ?_) (fun _ => ?_))
    · refine (jev_blk 3 (pc' := 5) (L' := ([some (.ref 0), some (.int a0)], [])) (S' := [.int (p (jq false) 1)]) (h' := (jX f g n2 p pa s sa false rp t, z)) rfl).trans ?_
      exact jev_fin rfl
    · refine jev_ite.trans (jite_congr (fun _ => ?_) (fun _ => ?_))
      · refine (jev_blk 3 (pc' := 9) (L' := ([some (.ref 0), some (.int a0)], [])) (S' := [.int (p (jq false) 2)]) (h' := (jX f g n2 p pa s sa false rp t, z)) rfl).trans ?_
        exact jev_fin rfl
      · refine jev_ite.trans (jite_congr (fun _ => ?_) (fun _ => ?_))
        · refine (jev_blk 3 (pc' := 13) (L' := ([some (.ref 0), some (.int a0)], [])) (S' := [.int (p (jq false) 3)]) (h' := (jX f g n2 p pa s sa false rp t, z)) rfl).trans ?_
          exact jev_fin rfl
        · refine jev_ite.trans (jite_congr (fun _ => ?_) (fun _ => ?_))
          · refine (jev_blk 3 (pc' := 17) (L' := ([some (.ref 0), some (.int a0)], [])) (S' := [.int (p (jq false) 4)]) (h' := (jX f g n2 p pa s sa false rp t, z)) rfl).trans ?_
            exact jev_fin rfl
          · refine jev_ite.trans (jite_congr (fun _ => ?_) (fun _ => ?_))
            · refine (jev_blk 3 (pc' := 21) (L' := ([some (.ref 0), some (.int a0)], [])) (S' := [.int (p (jq false) 5)]) (h' := (jX f g n2 p pa s sa false rp t, z)) rfl).trans ?_
              exact jev_fin rfl
            · refine jev_ite.trans (jite_congr (fun _ => ?_) (fun _ => ?_))
              · refine (jev_blk 3 (pc' := 25) (L' := ([some (.ref 0), some (.int a0)], [])) (S' := [.int (p (jq false) 9)]) (h' := (jX f g n2 p pa s sa false rp t, z)) rfl).trans ?_
                exact jev_fin rfl
              · refine jev_ite.trans (jite_congr (fun _ => ?_) (fun _ => ?_))
                · refine (jev_blk 3 (pc' := 29) (L' := ([some (.ref 0), some (.int a0)], [])) (S' := [.int (s 0 1)]) (h' := (jX f g n2 p pa s sa false rp t, z)) rfl).trans ?_
                  exact jev_fin rfl
                · refine jev_ite.trans (jite_congr (fun _ => ?_) (fun _ => ?_))
                  · refine (jev_blk 3 (pc' := 33) (L' := ([some (.ref 0), some (.int a0)], [])) (S' := [.int (s 0 0)]) (h' := (jX f g n2 p pa s sa false rp t, z)) rfl).trans ?_
                    exact jev_fin rfl
                  · refine (jev_blk 2 (pc' := 36) (L' := ([some (.ref 0), some (.int a0)], [])) (S' := [.int a0, .ref 0]) (h' := (jX f g n2 p pa s sa false rp t, z)) rfl).trans ?_
                    exact jev_callb (nx := 37) (rest := []) rfl
  · refine (jev_blk 2 (pc' := if a0 = 0 then 2 else if a0 = 1 then 6 else if a0 = 2 then 10 else if a0 = 3 then 14 else if a0 = 4 then 18 else if a0 = 5 then 22 else if a0 = 6 then 26 else if a0 = 7 then 30 else 34) (L' := ([some (.ref 0), some (.int a0)], [])) (S' := []) (h' := (jX f g n2 p pa s sa true rp t, z)) rfl).trans ?_
    refine jev_ite.trans (jite_congr (fun _ => ?_) (fun _ => ?_))
    · refine (jev_blk 3 (pc' := 5) (L' := ([some (.ref 0), some (.int a0)], [])) (S' := [.int (p (jq true) 1)]) (h' := (jX f g n2 p pa s sa true rp t, z)) rfl).trans ?_
      exact jev_fin rfl
    · refine jev_ite.trans (jite_congr (fun _ => ?_) (fun _ => ?_))
      · refine (jev_blk 3 (pc' := 9) (L' := ([some (.ref 0), some (.int a0)], [])) (S' := [.int (p (jq true) 2)]) (h' := (jX f g n2 p pa s sa true rp t, z)) rfl).trans ?_
        exact jev_fin rfl
      · refine jev_ite.trans (jite_congr (fun _ => ?_) (fun _ => ?_))
        · refine (jev_blk 3 (pc' := 13) (L' := ([some (.ref 0), some (.int a0)], [])) (S' := [.int (p (jq true) 3)]) (h' := (jX f g n2 p pa s sa true rp t, z)) rfl).trans ?_
          exact jev_fin rfl
        · refine jev_ite.trans (jite_congr (fun _ => ?_) (fun _ => ?_))
          · refine (jev_blk 3 (pc' := 17) (L' := ([some (.ref 0), some (.int a0)], [])) (S' := [.int (p (jq true) 4)]) (h' := (jX f g n2 p pa s sa true rp t, z)) rfl).trans ?_
            exact jev_fin rfl
          · refine jev_ite.trans (jite_congr (fun _ => ?_) (fun _ => ?_))
            · refine (jev_blk 3 (pc' := 21) (L' := ([some (.ref 0), some (.int a0)], [])) (S' := [.int (p (jq true) 5)]) (h' := (jX f g n2 p pa s sa true rp t, z)) rfl).trans ?_
              exact jev_fin rfl
            · refine jev_ite.trans (jite_congr (fun _ => ?_) (fun _ => ?_))
              · refine (jev_blk 3 (pc' := 25) (L' := ([some (.ref 0), some (.int a0)], [])) (S' := [.int (p (jq true) 9)]) (h' := (jX f g n2 p pa s sa true rp t, z)) rfl).trans ?_
                exact jev_fin rfl
              · refine jev_ite.trans (jite_congr (fun _ => ?_) (fun _ => ?_))
                · refine (jev_blk 3 (pc' := 29) (L' := ([some (.ref 0), some (.int a0)], [])) (S' := [.int (s 0 1)]) (h' := (jX f g n2 p pa s sa true rp t, z)) rfl).trans ?_
                  exact jev_fin rfl
                · refine jev_ite.trans (jite_congr (fun _ => ?_) (fun _ => ?_))
                  · refine (jev_blk 3 (pc' := 33) (L' := ([some (.ref 0), some (.int a0)], [])) (S' := [.int (s 0 0)]) (h' := (jX f g n2 p pa s sa true rp t, z)) rfl).trans ?_
                    exact jev_fin rfl
                  · refine (jev_blk 2 (pc' := 36) (L' := ([some (.ref 0), some (.int a0)], [])) (S' := [.int a0, .ref 0]) (h' := (jX f g n2 p pa s sa true rp t, z)) rfl).trans ?_
                    exact jev_callb (nx := 37) (rest := []) rfl
set_option maxRecDepth 20000 in
theorem E_c_count_37 {D : Nat}  {d1 : Option Value} {u0 : Int32} {f : Nat → Int32} {g : Nat → Nat → Int32} {n2 : Nat → Nat → Int64} {p : Nat → Nat → Int32} {pa : Nat → Nat → Nat → Int32} {s : Nat → Nat → Int32} {sa : Nat → Nat → Nat → Int32} {sw : Bool} {rp : Value} {t : List jE} {z : Nat × Nat × Nat × (Nat → Int32)}  : jev D 136 37 ([some (.ref 0), d1], []) [.int u0] (jX f g n2 p pa s sa sw rp t, z) = some (.inl (some (.int u0)), (jX f g n2 p pa s sa sw rp t, z)) := by
  cases sw
  · exact jev_fin rfl
  · exact jev_fin rfl
set_option maxRecDepth 20000 in
theorem E_c_countMore {D : Nat}  {a0 : Int32} {f : Nat → Int32} {g : Nat → Nat → Int32} {n2 : Nat → Nat → Int64} {p : Nat → Nat → Int32} {pa : Nat → Nat → Nat → Int32} {s : Nat → Nat → Int32} {sa : Nat → Nat → Nat → Int32} {sw : Bool} {rp : Value} {t : List jE} {z : Nat × Nat × Nat × (Nat → Int32)}  : K_c_countMore D a0 f g n2 p pa s sa sw rp t z = if a0 = 8 then (jbO (K_s_ripe D 0 f g n2 p pa s sa sw rp t z) (jk D 137 7 ([some (.ref 0), some (.int a0)], []) [.ref 49])) else (if a0 = 9 then (some (.inl (some (.int (s 0 3))), (jX f g n2 p pa s sa sw rp t, z))) else (if a0 = 10 then (some (.inl (some (.int (s 0 4))), (jX f g n2 p pa s sa sw rp t, z))) else (if a0 = 11 then (some (.inl (some (.int (s 0 5))), (jX f g n2 p pa s sa sw rp t, z))) else (if a0 = 12 then (jbO (K_j_bitCount D (s 0 2) f g n2 p pa s sa sw rp t z) (jk D 137 25 ([some (.ref 0), some (.int a0)], []) [])) else (if a0 = 13 then (some (.inl (some (.int (f 24))), (jX f g n2 p pa s sa sw rp t, z))) else (if a0 = 14 then (jbO (K_n_knownCount D f g n2 p pa s sa sw rp t z) (jk D 137 33 ([some (.ref 0), some (.int a0)], []) [])) else (if a0 = 15 then (some (.inl (some (.int (f 23))), (jX f g n2 p pa s sa sw rp t, z))) else (some (.inl (some (.int (-1))), (jX f g n2 p pa s sa sw rp t, z)))))))))) := by
  cases sw
  · refine (jev_blk 2 (pc' := if a0 = 8 then 2 else if a0 = 9 then 9 else if a0 = 10 then 13 else if a0 = 11 then 17 else if a0 = 12 then 21 else if a0 = 13 then 26 else if a0 = 14 then 30 else if a0 = 15 then 34 else 38) (L' := ([some (.ref 0), some (.int a0)], [])) (S' := []) (h' := (jX f g n2 p pa s sa false rp t, z)) rfl).trans ?_
    refine jev_ite.trans (jite_congr (fun _ => ?_) (fun _ => ?_))
    · refine (jev_blk 4 (pc' := 6) (L' := ([some (.ref 0), some (.int a0)], [])) (S' := [.ref 49, .ref 49]) (h' := (jX f g n2 p pa s sa false rp t, z)) rfl).trans ?_
      exact jev_callb (nx := 7) (rest := [.ref 49]) rfl
    · refine jev_ite.trans (jite_congr (fun _ => ?_) (fun _ => ?_))
      · refine (jev_blk 3 (pc' := 12) (L' := ([some (.ref 0), some (.int a0)], [])) (S' := [.int (s 0 3)]) (h' := (jX f g n2 p pa s sa false rp t, z)) rfl).trans ?_
        exact jev_fin rfl
      · refine jev_ite.trans (jite_congr (fun _ => ?_) (fun _ => ?_))
        · refine (jev_blk 3 (pc' := 16) (L' := ([some (.ref 0), some (.int a0)], [])) (S' := [.int (s 0 4)]) (h' := (jX f g n2 p pa s sa false rp t, z)) rfl).trans ?_
          exact jev_fin rfl
        · refine jev_ite.trans (jite_congr (fun _ => ?_) (fun _ => ?_))
          · refine (jev_blk 3 (pc' := 20) (L' := ([some (.ref 0), some (.int a0)], [])) (S' := [.int (s 0 5)]) (h' := (jX f g n2 p pa s sa false rp t, z)) rfl).trans ?_
            exact jev_fin rfl
          · refine jev_ite.trans (jite_congr (fun _ => ?_) (fun _ => ?_))
            · refine (jev_blk 3 (pc' := 24) (L' := ([some (.ref 0), some (.int a0)], [])) (S' := [.int (s 0 2)]) (h' := (jX f g n2 p pa s sa false rp t, z)) rfl).trans ?_
              exact jev_callb (nx := 25) (rest := []) rfl
            · refine jev_ite.trans (jite_congr (fun _ => ?_) (fun _ => ?_))
              · refine (jev_blk 3 (pc' := 29) (L' := ([some (.ref 0), some (.int a0)], [])) (S' := [.int (f 24)]) (h' := (jX f g n2 p pa s sa false rp t, z)) rfl).trans ?_
                exact jev_fin rfl
              · refine jev_ite.trans (jite_congr (fun _ => ?_) (fun _ => ?_))
                · refine (jev_blk 2 (pc' := 32) (L' := ([some (.ref 0), some (.int a0)], [])) (S' := [.ref 71]) (h' := (jX f g n2 p pa s sa false rp t, z)) rfl).trans ?_
                  exact jev_callb (nx := 33) (rest := []) rfl
                · refine jev_ite.trans (jite_congr (fun _ => ?_) (fun _ => ?_))
                  · refine (jev_blk 3 (pc' := 37) (L' := ([some (.ref 0), some (.int a0)], [])) (S' := [.int (f 23)]) (h' := (jX f g n2 p pa s sa false rp t, z)) rfl).trans ?_
                    exact jev_fin rfl
                  · refine (jev_blk 1 (pc' := 39) (L' := ([some (.ref 0), some (.int a0)], [])) (S' := [.int (-1)]) (h' := (jX f g n2 p pa s sa false rp t, z)) rfl).trans ?_
                    exact jev_fin rfl
  · refine (jev_blk 2 (pc' := if a0 = 8 then 2 else if a0 = 9 then 9 else if a0 = 10 then 13 else if a0 = 11 then 17 else if a0 = 12 then 21 else if a0 = 13 then 26 else if a0 = 14 then 30 else if a0 = 15 then 34 else 38) (L' := ([some (.ref 0), some (.int a0)], [])) (S' := []) (h' := (jX f g n2 p pa s sa true rp t, z)) rfl).trans ?_
    refine jev_ite.trans (jite_congr (fun _ => ?_) (fun _ => ?_))
    · refine (jev_blk 4 (pc' := 6) (L' := ([some (.ref 0), some (.int a0)], [])) (S' := [.ref 49, .ref 49]) (h' := (jX f g n2 p pa s sa true rp t, z)) rfl).trans ?_
      exact jev_callb (nx := 7) (rest := [.ref 49]) rfl
    · refine jev_ite.trans (jite_congr (fun _ => ?_) (fun _ => ?_))
      · refine (jev_blk 3 (pc' := 12) (L' := ([some (.ref 0), some (.int a0)], [])) (S' := [.int (s 0 3)]) (h' := (jX f g n2 p pa s sa true rp t, z)) rfl).trans ?_
        exact jev_fin rfl
      · refine jev_ite.trans (jite_congr (fun _ => ?_) (fun _ => ?_))
        · refine (jev_blk 3 (pc' := 16) (L' := ([some (.ref 0), some (.int a0)], [])) (S' := [.int (s 0 4)]) (h' := (jX f g n2 p pa s sa true rp t, z)) rfl).trans ?_
          exact jev_fin rfl
        · refine jev_ite.trans (jite_congr (fun _ => ?_) (fun _ => ?_))
          · refine (jev_blk 3 (pc' := 20) (L' := ([some (.ref 0), some (.int a0)], [])) (S' := [.int (s 0 5)]) (h' := (jX f g n2 p pa s sa true rp t, z)) rfl).trans ?_
            exact jev_fin rfl
          · refine jev_ite.trans (jite_congr (fun _ => ?_) (fun _ => ?_))
            · refine (jev_blk 3 (pc' := 24) (L' := ([some (.ref 0), some (.int a0)], [])) (S' := [.int (s 0 2)]) (h' := (jX f g n2 p pa s sa true rp t, z)) rfl).trans ?_
              exact jev_callb (nx := 25) (rest := []) rfl
            · refine jev_ite.trans (jite_congr (fun _ => ?_) (fun _ => ?_))
              · refine (jev_blk 3 (pc' := 29) (L' := ([some (.ref 0), some (.int a0)], [])) (S' := [.int (f 24)]) (h' := (jX f g n2 p pa s sa true rp t, z)) rfl).trans ?_
                exact jev_fin rfl
              · refine jev_ite.trans (jite_congr (fun _ => ?_) (fun _ => ?_))
                · refine (jev_blk 2 (pc' := 32) (L' := ([some (.ref 0), some (.int a0)], [])) (S' := [.ref 71]) (h' := (jX f g n2 p pa s sa true rp t, z)) rfl).trans ?_
                  exact jev_callb (nx := 33) (rest := []) rfl
                · refine jev_ite.trans (jite_congr (fun _ => ?_) (fun _ => ?_))
                  · refine (jev_blk 3 (pc' := 37) (L' := ([some (.ref 0), some (.int a0)], [])) (S' := [.int (f 23)]) (h' := (jX f g n2 p pa s sa true rp t, z)) rfl).trans ?_
                    exact jev_fin rfl
                  · refine (jev_blk 1 (pc' := 39) (L' := ([some (.ref 0), some (.int a0)], [])) (S' := [.int (-1)]) (h' := (jX f g n2 p pa s sa true rp t, z)) rfl).trans ?_
                    exact jev_fin rfl
set_option maxRecDepth 20000 in
theorem E_c_countMore_7 {D : Nat}  {d1 : Option Value} {u0 : Int32} {f : Nat → Int32} {g : Nat → Nat → Int32} {n2 : Nat → Nat → Int64} {p : Nat → Nat → Int32} {pa : Nat → Nat → Nat → Int32} {s : Nat → Nat → Int32} {sa : Nat → Nat → Nat → Int32} {sw : Bool} {rp : Value} {t : List jE} {z : Nat × Nat × Nat × (Nat → Int32)}  : jev D 137 7 ([some (.ref 0), d1], []) [.int u0, .ref 49] (jX f g n2 p pa s sa sw rp t, z) = jbO (K_s_cropOf D 0 u0 f g n2 p pa s sa sw rp t z) (jk D 137 8 ([some (.ref 0), d1], []) []) := by
  cases sw
  · exact jev_callb (nx := 8) (rest := []) rfl
  · exact jev_callb (nx := 8) (rest := []) rfl
set_option maxRecDepth 20000 in
theorem E_c_countMore_25 {D : Nat}  {d1 : Option Value} {u0 : Int32} {f : Nat → Int32} {g : Nat → Nat → Int32} {n2 : Nat → Nat → Int64} {p : Nat → Nat → Int32} {pa : Nat → Nat → Nat → Int32} {s : Nat → Nat → Int32} {sa : Nat → Nat → Nat → Int32} {sw : Bool} {rp : Value} {t : List jE} {z : Nat × Nat × Nat × (Nat → Int32)}  : jev D 137 25 ([some (.ref 0), d1], []) [.int u0] (jX f g n2 p pa s sa sw rp t, z) = some (.inl (some (.int u0)), (jX f g n2 p pa s sa sw rp t, z)) := by
  cases sw
  · exact jev_fin rfl
  · exact jev_fin rfl
set_option maxRecDepth 20000 in
theorem E_c_countMore_33 {D : Nat}  {d1 : Option Value} {u0 : Int32} {f : Nat → Int32} {g : Nat → Nat → Int32} {n2 : Nat → Nat → Int64} {p : Nat → Nat → Int32} {pa : Nat → Nat → Nat → Int32} {s : Nat → Nat → Int32} {sa : Nat → Nat → Nat → Int32} {sw : Bool} {rp : Value} {t : List jE} {z : Nat × Nat × Nat × (Nat → Int32)}  : jev D 137 33 ([some (.ref 0), d1], []) [.int u0] (jX f g n2 p pa s sa sw rp t, z) = some (.inl (some (.int u0)), (jX f g n2 p pa s sa sw rp t, z)) := by
  cases sw
  · exact jev_fin rfl
  · exact jev_fin rfl
set_option maxRecDepth 20000 in
theorem E_c_countMore_8 {D : Nat}  {d1 : Option Value} {u0 : Int32} {f : Nat → Int32} {g : Nat → Nat → Int32} {n2 : Nat → Nat → Int64} {p : Nat → Nat → Int32} {pa : Nat → Nat → Nat → Int32} {s : Nat → Nat → Int32} {sa : Nat → Nat → Nat → Int32} {sw : Bool} {rp : Value} {t : List jE} {z : Nat × Nat × Nat × (Nat → Int32)}  : jev D 137 8 ([some (.ref 0), d1], []) [.int u0] (jX f g n2 p pa s sa sw rp t, z) = some (.inl (some (.int u0)), (jX f g n2 p pa s sa sw rp t, z)) := by
  cases sw
  · exact jev_fin rfl
  · exact jev_fin rfl
