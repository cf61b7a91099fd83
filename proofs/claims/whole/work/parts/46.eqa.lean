-- EQUATIONS: one a block; E_ unfolds, L_ a loop's head
set_option maxRecDepth 20000 in
theorem E_r_start {D : Nat} {w : Bool} {a1 : Int32} {f : Nat → Int32} {g : Nat → Nat → Int32} {n2 : Nat → Nat → Int64} {p : Nat → Nat → Int32} {pa : Nat → Nat → Nat → Int32} {s : Nat → Nat → Int32} {sa : Nat → Nat → Nat → Int32} {sw : Bool} {rp : Value} {t : List jE} {z : Nat × Nat × Nat × (Nat → Int32)}  : K_r_start D w a1 f g n2 p pa s sa sw rp t z = jbO (K_p_clear D w f g n2 p pa s sa sw (.ref (jpl w)) t z) (jk D 48 6 ([some (.ref 1), some (.ref (jpl w)), some (.int a1)], []) []) := by
  cases w
  · refine (jev_blk 5 (pc' := 5) (L' := ([some (.ref 1), some (.ref (jpl false)), some (.int a1)], [])) (S' := [.ref (jpl false)]) (h' := (jX f g n2 p pa s sa sw (.ref (jpl false)) t, z)) rfl).trans ?_
    exact jev_callb (nx := 6) (rest := []) rfl
  · refine (jev_blk 5 (pc' := 5) (L' := ([some (.ref 1), some (.ref (jpl true)), some (.int a1)], [])) (S' := [.ref (jpl true)]) (h' := (jX f g n2 p pa s sa sw (.ref (jpl true)) t, z)) rfl).trans ?_
    exact jev_callb (nx := 6) (rest := []) rfl
set_option maxRecDepth 20000 in
theorem E_r_start_6 {D : Nat}  {d1 : Option Value} {x2 : Int32} {f : Nat → Int32} {g : Nat → Nat → Int32} {n2 : Nat → Nat → Int64} {p : Nat → Nat → Int32} {pa : Nat → Nat → Nat → Int32} {s : Nat → Nat → Int32} {sa : Nat → Nat → Nat → Int32} {sw : Bool} {rp : Value} {t : List jE} {z : Nat × Nat × Nat × (Nat → Int32)}  : jev D 48 6 ([some (.ref 1), d1, some (.int x2)], []) [] (jX f g n2 p pa s sa sw rp t, z) = jbO (K_k_start D x2 (jup (jup (jup (jup (jup (jup f 2 (0)) 3 (0)) 4 (0)) 5 (0)) 7 (0)) 8 ((-1))) g n2 p pa s sa sw rp t z) (jk D 48 28 ([some (.ref 1), d1, some (.int x2)], []) []) := by
  refine (jev_blk 21 (pc' := 27) (L' := ([some (.ref 1), d1, some (.int x2)], [])) (S' := [.int x2, .ref 2]) (h' := (jX (jup (jup (jup (jup (jup (jup f 2 (0)) 3 (0)) 4 (0)) 5 (0)) 7 (0)) 8 ((-1))) g n2 p pa s sa sw rp t, z)) rfl).trans ?_
  exact jev_callb (nx := 28) (rest := []) rfl
set_option maxRecDepth 20000 in
theorem E_r_start_28 {D : Nat}  {d1 : Option Value} {d2 : Option Value} {f : Nat → Int32} {g : Nat → Nat → Int32} {n2 : Nat → Nat → Int64} {p : Nat → Nat → Int32} {pa : Nat → Nat → Nat → Int32} {s : Nat → Nat → Int32} {sa : Nat → Nat → Nat → Int32} {sw : Bool} {rp : Value} {t : List jE} {z : Nat × Nat × Nat × (Nat → Int32)}  : jev D 48 28 ([some (.ref 1), d1, d2], []) [] (jX f g n2 p pa s sa sw rp t, z) = some (.inl (none), (jX f g n2 p pa s sa sw rp t, z)) := by
  exact jev_fin rfl
set_option maxRecDepth 20000 in
theorem E_r_atEnd {D : Nat} {w : Bool}  {f : Nat → Int32} {g : Nat → Nat → Int32} {n2 : Nat → Nat → Int64} {p : Nat → Nat → Int32} {pa : Nat → Nat → Nat → Int32} {s : Nat → Nat → Int32} {sa : Nat → Nat → Nat → Int32} {sw : Bool} {t : List jE} {z : Nat × Nat × Nat × (Nat → Int32)}  : K_r_atEnd D w f g n2 p pa s sa sw t z = if (f 11) = 0 then (some (.inl (some (.int 1)), (jX f g n2 p pa s sa sw (.ref (jpl w)) t, z))) else (some (.inl (some (.int 0)), (jX f g n2 p pa s sa sw (.ref (jpl w)) t, z))) := by
  cases w
  · refine (jev_blk 4 (pc' := if (f 11) = 0 then 4 else 6) (L' := ([some (.ref 1)], [])) (S' := []) (h' := (jX f g n2 p pa s sa sw (.ref (jpl false)) t, z)) rfl).trans (jev_ite.trans (jite_congr (fun _ => ?_) (fun _ => ?_)))
    · refine (jev_blk 2 (pc' := 7) (L' := ([some (.ref 1)], [])) (S' := [.int 1]) (h' := (jX f g n2 p pa s sa sw (.ref (jpl false)) t, z)) rfl).trans ?_
      exact jev_fin rfl
    · refine (jev_blk 1 (pc' := 7) (L' := ([some (.ref 1)], [])) (S' := [.int 0]) (h' := (jX f g n2 p pa s sa sw (.ref (jpl false)) t, z)) rfl).trans ?_
      exact jev_fin rfl
  · refine (jev_blk 4 (pc' := if (f 11) = 0 then 4 else 6) (L' := ([some (.ref 1)], [])) (S' := []) (h' := (jX f g n2 p pa s sa sw (.ref (jpl true)) t, z)) rfl).trans (jev_ite.trans (jite_congr (fun _ => ?_) (fun _ => ?_)))
    · refine (jev_blk 2 (pc' := 7) (L' := ([some (.ref 1)], [])) (S' := [.int 1]) (h' := (jX f g n2 p pa s sa sw (.ref (jpl true)) t, z)) rfl).trans ?_
      exact jev_fin rfl
    · refine (jev_blk 1 (pc' := 7) (L' := ([some (.ref 1)], [])) (S' := [.int 0]) (h' := (jX f g n2 p pa s sa sw (.ref (jpl true)) t, z)) rfl).trans ?_
      exact jev_fin rfl
set_option maxRecDepth 20000 in
theorem E_r_fail {D : Nat} {w : Bool} {a0 : Int32} {f : Nat → Int32} {g : Nat → Nat → Int32} {n2 : Nat → Nat → Int64} {p : Nat → Nat → Int32} {pa : Nat → Nat → Nat → Int32} {s : Nat → Nat → Int32} {sa : Nat → Nat → Nat → Int32} {sw : Bool} {t : List jE} {z : Nat × Nat × Nat × (Nat → Int32)}  : K_r_fail D w a0 f g n2 p pa s sa sw t z = some (.inl (some (.int 0)), (jX (jup (jup f 7 (a0)) 8 ((f 13))) g n2 p pa s sa sw (.ref (jpl w)) t, z)) := by
  cases w
  · refine (jev_blk 9 (pc' := 9) (L' := ([some (.ref 1), some (.int a0)], [])) (S' := [.int 0]) (h' := (jX (jup (jup f 7 (a0)) 8 ((f 13))) g n2 p pa s sa sw (.ref (jpl false)) t, z)) rfl).trans ?_
    exact jev_fin rfl
  · refine (jev_blk 9 (pc' := 9) (L' := ([some (.ref 1), some (.int a0)], [])) (S' := [.int 0]) (h' := (jX (jup (jup f 7 (a0)) 8 ((f 13))) g n2 p pa s sa sw (.ref (jpl true)) t, z)) rfl).trans ?_
    exact jev_fin rfl
set_option maxRecDepth 20000 in
theorem E_r_readLine {D : Nat} {w : Bool}  {f : Nat → Int32} {g : Nat → Nat → Int32} {n2 : Nat → Nat → Int64} {p : Nat → Nat → Int32} {pa : Nat → Nat → Nat → Int32} {s : Nat → Nat → Int32} {sa : Nat → Nat → Nat → Int32} {sw : Bool} {t : List jE} {z : Nat × Nat × Nat × (Nat → Int32)}  : K_r_readLine D w f g n2 p pa s sa sw t z = if (f 11) = 4 then (if (f 12) = 0 then (jbO (K_r_readField D w f g n2 p pa s sa sw t z) (jk D 51 15 ([some (.ref 1), none], []) [])) else (if (f 12) = 1 then (jbO (K_r_readCrop D w f g n2 p pa s sa sw t z) (jk D 51 19 ([some (.ref 1), none], []) [])) else (if (f 12) = 2 then (jbO (K_r_readScare D w f g n2 p pa s sa sw t z) (jk D 51 23 ([some (.ref 1), none], []) [])) else (if (f 12) = 3 then (jbO (K_r_readFlap D w f g n2 p pa s sa sw t z) (jk D 51 27 ([some (.ref 1), none], []) [])) else (if (f 12) = 4 then (jbO (K_r_readSingle D w (f 12) f g n2 p pa s sa sw t z) (jk D 51 42 ([some (.ref 1), none], []) [])) else (if (f 12) = 5 then (jbO (K_r_readSingle D w (f 12) f g n2 p pa s sa sw t z) (jk D 51 42 ([some (.ref 1), none], []) [])) else (if (f 12) = 6 then (jbO (K_r_readSingle D w (f 12) f g n2 p pa s sa sw t z) (jk D 51 42 ([some (.ref 1), none], []) [])) else (if (f 12) = 7 then (jbO (K_r_readSingle D w (f 12) f g n2 p pa s sa sw t z) (jk D 51 42 ([some (.ref 1), none], []) [])) else (if (f 12) = 8 then (jbO (K_r_readLaw D w f g n2 p pa s sa sw t z) (jk D 51 35 ([some (.ref 1), none], []) [])) else (if (f 12) = 9 then (jbO (K_r_readSingle D w (f 12) f g n2 p pa s sa sw t z) (jk D 51 42 ([some (.ref 1), none], []) [])) else (if (f 12) = 10 then (jbO (K_r_readSingle D w (f 12) f g n2 p pa s sa sw t z) (jk D 51 42 ([some (.ref 1), none], []) [])) else (if (f 12) = 11 then (jbO (K_r_readSingle D w (f 12) f g n2 p pa s sa sw t z) (jk D 51 42 ([some (.ref 1), none], []) [])) else (if (f 12) = 12 then (jbO (K_r_readSingle D w (f 12) f g n2 p pa s sa sw t z) (jk D 51 42 ([some (.ref 1), none], []) [])) else (if (f 12) = 13 then (jbO (K_r_readSingle D w (f 12) f g n2 p pa s sa sw t z) (jk D 51 42 ([some (.ref 1), none], []) [])) else (if (f 12) = 14 then (jbO (K_r_readSingle D w (f 12) f g n2 p pa s sa sw t z) (jk D 51 42 ([some (.ref 1), none], []) [])) else (if (f 12) = 15 then (jbO (K_r_readSingle D w (f 12) f g n2 p pa s sa sw t z) (jk D 51 42 ([some (.ref 1), none], []) [])) else (if (f 12) = 16 then (jbO (K_r_readSingle D w (f 12) f g n2 p pa s sa sw t z) (jk D 51 42 ([some (.ref 1), none], []) [])) else (if (f 12) = 17 then (jbO (K_r_readWind D w f g n2 p pa s sa sw t z) (jk D 51 31 ([some (.ref 1), none], []) [])) else (jbO (K_r_readSingle D w (f 12) f g n2 p pa s sa sw t z) (jk D 51 42 ([some (.ref 1), none], []) [])))))))))))))))))))) else (jbO (K_r_fail D w 1 f g n2 p pa s sa sw t z) (jk D 51 8 ([some (.ref 1), none], []) [])) := by
  cases w
  · refine (jev_blk 5 (pc' := if (f 11) = 4 then 9 else 5) (L' := ([some (.ref 1), none], [])) (S' := []) (h' := (jX f g n2 p pa s sa sw (.ref (jpl false)) t, z)) rfl).trans (jev_ite.trans (jite_congr (fun _ => ?_) (fun _ => ?_)))
    · refine (jev_blk 4 (pc' := if (f 12) = 0 then 13 else if (f 12) = 1 then 17 else if (f 12) = 2 then 21 else if (f 12) = 3 then 25 else if (f 12) = 4 then 37 else if (f 12) = 5 then 37 else if (f 12) = 6 then 37 else if (f 12) = 7 then 37 else if (f 12) = 8 then 33 else if (f 12) = 9 then 37 else if (f 12) = 10 then 37 else if (f 12) = 11 then 37 else if (f 12) = 12 then 37 else if (f 12) = 13 then 37 else if (f 12) = 14 then 37 else if (f 12) = 15 then 37 else if (f 12) = 16 then 37 else if (f 12) = 17 then 29 else 37) (L' := ([some (.ref 1), none], [])) (S' := []) (h' := (jX f g n2 p pa s sa sw (.ref (jpl false)) t, z)) rfl).trans ?_
      refine jev_ite.trans (jite_congr (fun _ => ?_) (fun _ => ?_))
      · refine (jev_blk 1 (pc' := 14) (L' := ([some (.ref 1), none], [])) (S' := [.ref 1]) (h' := (jX f g n2 p pa s sa sw (.ref (jpl false)) t, z)) rfl).trans ?_
        exact jev_callb (nx := 15) (rest := []) rfl
      · refine jev_ite.trans (jite_congr (fun _ => ?_) (fun _ => ?_))
        · refine (jev_blk 1 (pc' := 18) (L' := ([some (.ref 1), none], [])) (S' := [.ref 1]) (h' := (jX f g n2 p pa s sa sw (.ref (jpl false)) t, z)) rfl).trans ?_
          exact jev_callb (nx := 19) (rest := []) rfl
        · refine jev_ite.trans (jite_congr (fun _ => ?_) (fun _ => ?_))
          · refine (jev_blk 1 (pc' := 22) (L' := ([some (.ref 1), none], [])) (S' := [.ref 1]) (h' := (jX f g n2 p pa s sa sw (.ref (jpl false)) t, z)) rfl).trans ?_
            exact jev_callb (nx := 23) (rest := []) rfl
          · refine jev_ite.trans (jite_congr (fun _ => ?_) (fun _ => ?_))
            · refine (jev_blk 1 (pc' := 26) (L' := ([some (.ref 1), none], [])) (S' := [.ref 1]) (h' := (jX f g n2 p pa s sa sw (.ref (jpl false)) t, z)) rfl).trans ?_
              exact jev_callb (nx := 27) (rest := []) rfl
            · refine jev_ite.trans (jite_congr (fun _ => ?_) (fun _ => ?_))
              · refine (jev_blk 4 (pc' := 41) (L' := ([some (.ref 1), none], [])) (S' := [.int (f 12), .ref 1]) (h' := (jX f g n2 p pa s sa sw (.ref (jpl false)) t, z)) rfl).trans ?_
                exact jev_callb (nx := 42) (rest := []) rfl
              · refine jev_ite.trans (jite_congr (fun _ => ?_) (fun _ => ?_))
                · refine (jev_blk 4 (pc' := 41) (L' := ([some (.ref 1), none], [])) (S' := [.int (f 12), .ref 1]) (h' := (jX f g n2 p pa s sa sw (.ref (jpl false)) t, z)) rfl).trans ?_
                  exact jev_callb (nx := 42) (rest := []) rfl
                · refine jev_ite.trans (jite_congr (fun _ => ?_) (fun _ => ?_))
                  · refine (jev_blk 4 (pc' := 41) (L' := ([some (.ref 1), none], [])) (S' := [.int (f 12), .ref 1]) (h' := (jX f g n2 p pa s sa sw (.ref (jpl false)) t, z)) rfl).trans ?_
                    exact jev_callb (nx := 42) (rest := []) rfl
                  · refine jev_ite.trans (jite_congr (fun _ => ?_) (fun _ => ?_))
                    · refine (jev_blk 4 (pc' := 41) (L' := ([some (.ref 1), none], [])) (S' := [.int (f 12), .ref 1]) (h' := (jX f g n2 p pa s sa sw (.ref (jpl false)) t, z)) rfl).trans ?_
                      exact jev_callb (nx := 42) (rest := []) rfl
                    · refine jev_ite.trans (jite_congr (fun _ => ?_) (fun _ => ?_))
                      · refine (jev_blk 1 (pc' := 34) (L' := ([some (.ref 1), none], [])) (S' := [.ref 1]) (h' := (jX f g n2 p pa s sa sw (.ref (jpl false)) t, z)) rfl).trans ?_
                        exact jev_callb (nx := 35) (rest := []) rfl
                      · refine jev_ite.trans (jite_congr (fun _ => ?_) (fun _ => ?_))
                        · refine (jev_blk 4 (pc' := 41) (L' := ([some (.ref 1), none], [])) (S' := [.int (f 12), .ref 1]) (h' := (jX f g n2 p pa s sa sw (.ref (jpl false)) t, z)) rfl).trans ?_
                          exact jev_callb (nx := 42) (rest := []) rfl
                        · refine jev_ite.trans (jite_congr (fun _ => ?_) (fun _ => ?_))
                          · refine (jev_blk 4 (pc' := 41) (L' := ([some (.ref 1), none], [])) (S' := [.int (f 12), .ref 1]) (h' := (jX f g n2 p pa s sa sw (.ref (jpl false)) t, z)) rfl).trans ?_
                            exact jev_callb (nx := 42) (rest := []) rfl
                          · refine jev_ite.trans (jite_congr (fun _ => ?_) (fun _ => ?_))
                            · refine (jev_blk 4 (pc' := 41) (L' := ([some (.ref 1), none], [])) (S' := [.int (f 12), .ref 1]) (h' := (jX f g n2 p pa s sa sw (.ref (jpl false)) t, z)) rfl).trans ?_
                              exact jev_callb (nx := 42) (rest := []) rfl
                            · refine jev_ite.trans (jite_congr (fun _ => ?_) (fun _ => ?_))
                              · refine (jev_blk 4 (pc' := 41) (L' := ([some (.ref 1), none], [])) (S' := [.int (f 12), .ref 1]) (h' := (jX f g n2 p pa s sa sw (.ref (jpl false)) t, z)) rfl).trans ?_
                                exact jev_callb (nx := 42) (rest := []) rfl
                              · refine jev_ite.trans (jite_congr (fun _ => ?_) (fun _ => ?_))
                                · refine (jev_blk 4 (pc' := 41) (L' := ([some (.ref 1), none], [])) (S' := [.int (f 12), .ref 1]) (h' := (jX f g n2 p pa s sa sw (.ref (jpl false)) t, z)) rfl).trans ?_
                                  exact jev_callb (nx := 42) (rest := []) rfl
                                · refine jev_ite.trans (jite_congr (fun _ => ?_) (fun _ => ?_))
                                  · refine (jev_blk 4 (pc' := 41) (L' := ([some (.ref 1), none], [])) (S' := [.int (f 12), .ref 1]) (h' := (jX f g n2 p pa s sa sw (.ref (jpl false)) t, z)) rfl).trans ?_
                                    exact jev_callb (nx := 42) (rest := []) rfl
                                  · refine jev_ite.trans (jite_congr (fun _ => ?_) (fun _ => ?_))
                                    · refine (jev_blk 4 (pc' := 41) (L' := ([some (.ref 1), none], [])) (S' := [.int (f 12), .ref 1]) (h' := (jX f g n2 p pa s sa sw (.ref (jpl false)) t, z)) rfl).trans ?_
                                      exact jev_callb (nx := 42) (rest := []) rfl
                                    · refine jev_ite.trans (jite_congr (fun _ => ?_) (fun _ => ?_))
                                      · refine (jev_blk 4 (pc' := 41) (L' := ([some (.ref 1), none], [])) (S' := [.int (f 12), .ref 1]) (h' := (jX f g n2 p pa s sa sw (.ref (jpl false)) t, z)) rfl).trans ?_
                                        exact jev_callb (nx := 42) (rest := []) rfl
                                      · refine jev_ite.trans (jite_congr (fun _ => ?_) (fun _ => ?_))
                                        · refine (jev_blk 1 (pc' := 30) (L' := ([some (.ref 1), none], [])) (S' := [.ref 1]) (h' := (jX f g n2 p pa s sa sw (.ref (jpl false)) t, z)) rfl).trans ?_
                                          exact jev_callb (nx := 31) (rest := []) rfl
                                        · refine (jev_blk 4 (pc' := 41) (L' := ([some (.ref 1), none], [])) (S' := [.int (f 12), .ref 1]) (h' := (jX f g n2 p pa s sa sw (.ref (jpl false)) t, z)) rfl).trans ?_
                                          exact jev_callb (nx := 42) (rest := []) rfl
    · refine (jev_blk 2 (pc' := 7) (L' := ([some (.ref 1), none], [])) (S' := [.int 1, .ref 1]) (h' := (jX f g n2 p pa s sa sw (.ref (jpl false)) t, z)) rfl).trans ?_
      exact jev_callb (nx := 8) (rest := []) rfl
  · refine (jev_blk 5 (pc' := if (f 11) = 4 then 9 else 5) (L' := ([some (.ref 1), none], [])) (S' := []) (h' := (jX f g n2 p pa s sa sw (.ref (jpl true)) t, z)) rfl).trans (jev_ite.trans (jite_congr (fun _ => ?_) (fun _ => ?_)))
    · refine (jev_blk 4 (pc' := if (f 12) = 0 then 13 else if (f 12) = 1 then 17 else if (f 12) = 2 then 21 else if (f 12) = 3 then 25 else if (f 12) = 4 then 37 else if (f 12) = 5 then 37 else if (f 12) = 6 then 37 else if (f 12) = 7 then 37 else if (f 12) = 8 then 33 else if (f 12) = 9 then 37 else if (f 12) = 10 then 37 else if (f 12) = 11 then 37 else if (f 12) = 12 then 37 else if (f 12) = 13 then 37 else if (f 12) = 14 then 37 else if (f 12) = 15 then 37 else if (f 12) = 16 then 37 else if (f 12) = 17 then 29 else 37) (L' := ([some (.ref 1), none], [])) (S' := []) (h' := (jX f g n2 p pa s sa sw (.ref (jpl true)) t, z)) rfl).trans ?_
      refine jev_ite.trans (jite_congr (fun _ => ?_) (fun _ => ?_))
      · refine (jev_blk 1 (pc' := 14) (L' := ([some (.ref 1), none], [])) (S' := [.ref 1]) (h' := (jX f g n2 p pa s sa sw (.ref (jpl true)) t, z)) rfl).trans ?_
        exact jev_callb (nx := 15) (rest := []) rfl
      · refine jev_ite.trans (jite_congr (fun _ => ?_) (fun _ => ?_))
        · refine (jev_blk 1 (pc' := 18) (L' := ([some (.ref 1), none], [])) (S' := [.ref 1]) (h' := (jX f g n2 p pa s sa sw (.ref (jpl true)) t, z)) rfl).trans ?_
          exact jev_callb (nx := 19) (rest := []) rfl
        · refine jev_ite.trans (jite_congr (fun _ => ?_) (fun _ => ?_))
          · refine (jev_blk 1 (pc' := 22) (L' := ([some (.ref 1), none], [])) (S' := [.ref 1]) (h' := (jX f g n2 p pa s sa sw (.ref (jpl true)) t, z)) rfl).trans ?_
            exact jev_callb (nx := 23) (rest := []) rfl
          · refine jev_ite.trans (jite_congr (fun _ => ?_) (fun _ => ?_))
            · refine (jev_blk 1 (pc' := 26) (L' := ([some (.ref 1), none], [])) (S' := [.ref 1]) (h' := (jX f g n2 p pa s sa sw (.ref (jpl true)) t, z)) rfl).trans ?_
              exact jev_callb (nx := 27) (rest := []) rfl
            · refine jev_ite.trans (jite_congr (fun _ => ?_) (fun _ => ?_))
              · refine (jev_blk 4 (pc' := 41) (L' := ([some (.ref 1), none], [])) (S' := [.int (f 12), .ref 1]) (h' := (jX f g n2 p pa s sa sw (.ref (jpl true)) t, z)) rfl).trans ?_
                exact jev_callb (nx := 42) (rest := []) rfl
              · refine jev_ite.trans (jite_congr (fun _ => ?_) (fun _ => ?_))
                · refine (jev_blk 4 (pc' := 41) (L' := ([some (.ref 1), none], [])) (S' := [.int (f 12), .ref 1]) (h' := (jX f g n2 p pa s sa sw (.ref (jpl true)) t, z)) rfl).trans ?_
                  exact jev_callb (nx := 42) (rest := []) rfl
                · refine jev_ite.trans (jite_congr (fun _ => ?_) (fun _ => ?_))
                  · refine (jev_blk 4 (pc' := 41) (L' := ([some (.ref 1), none], [])) (S' := [.int (f 12), .ref 1]) (h' := (jX f g n2 p pa s sa sw (.ref (jpl true)) t, z)) rfl).trans ?_
                    exact jev_callb (nx := 42) (rest := []) rfl
                  · refine jev_ite.trans (jite_congr (fun _ => ?_) (fun _ => ?_))
                    · refine (jev_blk 4 (pc' := 41) (L' := ([some (.ref 1), none], [])) (S' := [.int (f 12), .ref 1]) (h' := (jX f g n2 p pa s sa sw (.ref (jpl true)) t, z)) rfl).trans ?_
                      exact jev_callb (nx := 42) (rest := []) rfl
                    · refine jev_ite.trans (jite_congr (fun _ => ?_) (fun _ => ?_))
                      · refine (jev_blk 1 (pc' := 34) (L' := ([some (.ref 1), none], [])) (S' := [.ref 1]) (h' := (jX f g n2 p pa s sa sw (.ref (jpl true)) t, z)) rfl).trans ?_
                        exact jev_callb (nx := 35) (rest := []) rfl
                      · refine jev_ite.trans (jite_congr (fun _ => ?_) (fun _ => ?_))
                        · refine (jev_blk 4 (pc' := 41) (L' := ([some (.ref 1), none], [])) (S' := [.int (f 12), .ref 1]) (h' := (jX f g n2 p pa s sa sw (.ref (jpl true)) t, z)) rfl).trans ?_
                          exact jev_callb (nx := 42) (rest := []) rfl
                        · refine jev_ite.trans (jite_congr (fun _ => ?_) (fun _ => ?_))
                          · refine (jev_blk 4 (pc' := 41) (L' := ([some (.ref 1), none], [])) (S' := [.int (f 12), .ref 1]) (h' := (jX f g n2 p pa s sa sw (.ref (jpl true)) t, z)) rfl).trans ?_
                            exact jev_callb (nx := 42) (rest := []) rfl
                          · refine jev_ite.trans (jite_congr (fun _ => ?_) (fun _ => ?_))
                            · refine (jev_blk 4 (pc' := 41) (L' := ([some (.ref 1), none], [])) (S' := [.int (f 12), .ref 1]) (h' := (jX f g n2 p pa s sa sw (.ref (jpl true)) t, z)) rfl).trans ?_
                              exact jev_callb (nx := 42) (rest := []) rfl
                            · refine jev_ite.trans (jite_congr (fun _ => ?_) (fun _ => ?_))
                              · refine (jev_blk 4 (pc' := 41) (L' := ([some (.ref 1), none], [])) (S' := [.int (f 12), .ref 1]) (h' := (jX f g n2 p pa s sa sw (.ref (jpl true)) t, z)) rfl).trans ?_
                                exact jev_callb (nx := 42) (rest := []) rfl
                              · refine jev_ite.trans (jite_congr (fun _ => ?_) (fun _ => ?_))
                                · refine (jev_blk 4 (pc' := 41) (L' := ([some (.ref 1), none], [])) (S' := [.int (f 12), .ref 1]) (h' := (jX f g n2 p pa s sa sw (.ref (jpl true)) t, z)) rfl).trans ?_
                                  exact jev_callb (nx := 42) (rest := []) rfl
                                · refine jev_ite.trans (jite_congr (fun _ => ?_) (fun _ => ?_))
                                  · refine (jev_blk 4 (pc' := 41) (L' := ([some (.ref 1), none], [])) (S' := [.int (f 12), .ref 1]) (h' := (jX f g n2 p pa s sa sw (.ref (jpl true)) t, z)) rfl).trans ?_
                                    exact jev_callb (nx := 42) (rest := []) rfl
                                  · refine jev_ite.trans (jite_congr (fun _ => ?_) (fun _ => ?_))
                                    · refine (jev_blk 4 (pc' := 41) (L' := ([some (.ref 1), none], [])) (S' := [.int (f 12), .ref 1]) (h' := (jX f g n2 p pa s sa sw (.ref (jpl true)) t, z)) rfl).trans ?_
                                      exact jev_callb (nx := 42) (rest := []) rfl
                                    · refine jev_ite.trans (jite_congr (fun _ => ?_) (fun _ => ?_))
                                      · refine (jev_blk 4 (pc' := 41) (L' := ([some (.ref 1), none], [])) (S' := [.int (f 12), .ref 1]) (h' := (jX f g n2 p pa s sa sw (.ref (jpl true)) t, z)) rfl).trans ?_
                                        exact jev_callb (nx := 42) (rest := []) rfl
                                      · refine jev_ite.trans (jite_congr (fun _ => ?_) (fun _ => ?_))
                                        · refine (jev_blk 1 (pc' := 30) (L' := ([some (.ref 1), none], [])) (S' := [.ref 1]) (h' := (jX f g n2 p pa s sa sw (.ref (jpl true)) t, z)) rfl).trans ?_
                                          exact jev_callb (nx := 31) (rest := []) rfl
                                        · refine (jev_blk 4 (pc' := 41) (L' := ([some (.ref 1), none], [])) (S' := [.int (f 12), .ref 1]) (h' := (jX f g n2 p pa s sa sw (.ref (jpl true)) t, z)) rfl).trans ?_
                                          exact jev_callb (nx := 42) (rest := []) rfl
    · refine (jev_blk 2 (pc' := 7) (L' := ([some (.ref 1), none], [])) (S' := [.int 1, .ref 1]) (h' := (jX f g n2 p pa s sa sw (.ref (jpl true)) t, z)) rfl).trans ?_
      exact jev_callb (nx := 8) (rest := []) rfl
set_option maxRecDepth 20000 in
theorem E_r_readLine_15 {D : Nat} {w : Bool} {d1 : Option Value} {u0 : Int32} {f : Nat → Int32} {g : Nat → Nat → Int32} {n2 : Nat → Nat → Int64} {p : Nat → Nat → Int32} {pa : Nat → Nat → Nat → Int32} {s : Nat → Nat → Int32} {sa : Nat → Nat → Nat → Int32} {sw : Bool} {t : List jE} {z : Nat × Nat × Nat × (Nat → Int32)}  : jev D 51 15 ([some (.ref 1), d1], []) [.int u0] (jX f g n2 p pa s sa sw (.ref (jpl w)) t, z) = K_r_readLine_43 D w u0 f g n2 p pa s sa sw t z := by
  cases w
  · exact jev_blk 2 rfl
  · exact jev_blk 2 rfl
set_option maxRecDepth 20000 in
theorem E_r_readLine_43 {D : Nat} {w : Bool} {x1 : Int32} {f : Nat → Int32} {g : Nat → Nat → Int32} {n2 : Nat → Nat → Int64} {p : Nat → Nat → Int32} {pa : Nat → Nat → Nat → Int32} {s : Nat → Nat → Int32} {sa : Nat → Nat → Nat → Int32} {sw : Bool} {t : List jE} {z : Nat × Nat × Nat × (Nat → Int32)}  : K_r_readLine_43 D w x1 f g n2 p pa s sa sw t z = if x1 = 0 then (some (.inl (some (.int 0)), (jX f g n2 p pa s sa sw (.ref (jpl w)) t, z))) else (jbO (K_k_isSign D 100 f g n2 p pa s sa sw (.ref (jpl w)) t z) (jk D 51 51 ([some (.ref 1), some (.int x1)], []) [])) := by
  cases w
  · refine (jev_blk 2 (pc' := if x1 = 0 then 45 else 47) (L' := ([some (.ref 1), some (.int x1)], [])) (S' := []) (h' := (jX f g n2 p pa s sa sw (.ref (jpl false)) t, z)) rfl).trans (jev_ite.trans (jite_congr (fun _ => ?_) (fun _ => ?_)))
    · refine (jev_blk 1 (pc' := 46) (L' := ([some (.ref 1), some (.int x1)], [])) (S' := [.int 0]) (h' := (jX f g n2 p pa s sa sw (.ref (jpl false)) t, z)) rfl).trans ?_
      exact jev_fin rfl
    · refine (jev_blk 3 (pc' := 50) (L' := ([some (.ref 1), some (.int x1)], [])) (S' := [.int 100, .ref 2]) (h' := (jX f g n2 p pa s sa sw (.ref (jpl false)) t, z)) rfl).trans ?_
      exact jev_callb (nx := 51) (rest := []) rfl
  · refine (jev_blk 2 (pc' := if x1 = 0 then 45 else 47) (L' := ([some (.ref 1), some (.int x1)], [])) (S' := []) (h' := (jX f g n2 p pa s sa sw (.ref (jpl true)) t, z)) rfl).trans (jev_ite.trans (jite_congr (fun _ => ?_) (fun _ => ?_)))
    · refine (jev_blk 1 (pc' := 46) (L' := ([some (.ref 1), some (.int x1)], [])) (S' := [.int 0]) (h' := (jX f g n2 p pa s sa sw (.ref (jpl true)) t, z)) rfl).trans ?_
      exact jev_fin rfl
    · refine (jev_blk 3 (pc' := 50) (L' := ([some (.ref 1), some (.int x1)], [])) (S' := [.int 100, .ref 2]) (h' := (jX f g n2 p pa s sa sw (.ref (jpl true)) t, z)) rfl).trans ?_
      exact jev_callb (nx := 51) (rest := []) rfl
set_option maxRecDepth 20000 in
theorem E_r_readLine_19 {D : Nat} {w : Bool} {d1 : Option Value} {u0 : Int32} {f : Nat → Int32} {g : Nat → Nat → Int32} {n2 : Nat → Nat → Int64} {p : Nat → Nat → Int32} {pa : Nat → Nat → Nat → Int32} {s : Nat → Nat → Int32} {sa : Nat → Nat → Nat → Int32} {sw : Bool} {t : List jE} {z : Nat × Nat × Nat × (Nat → Int32)}  : jev D 51 19 ([some (.ref 1), d1], []) [.int u0] (jX f g n2 p pa s sa sw (.ref (jpl w)) t, z) = K_r_readLine_43 D w u0 f g n2 p pa s sa sw t z := by
  cases w
  · exact jev_blk 2 rfl
  · exact jev_blk 2 rfl
set_option maxRecDepth 20000 in
theorem E_r_readLine_23 {D : Nat} {w : Bool} {d1 : Option Value} {u0 : Int32} {f : Nat → Int32} {g : Nat → Nat → Int32} {n2 : Nat → Nat → Int64} {p : Nat → Nat → Int32} {pa : Nat → Nat → Nat → Int32} {s : Nat → Nat → Int32} {sa : Nat → Nat → Nat → Int32} {sw : Bool} {t : List jE} {z : Nat × Nat × Nat × (Nat → Int32)}  : jev D 51 23 ([some (.ref 1), d1], []) [.int u0] (jX f g n2 p pa s sa sw (.ref (jpl w)) t, z) = K_r_readLine_43 D w u0 f g n2 p pa s sa sw t z := by
  cases w
  · exact jev_blk 2 rfl
  · exact jev_blk 2 rfl
set_option maxRecDepth 20000 in
theorem E_r_readLine_27 {D : Nat} {w : Bool} {d1 : Option Value} {u0 : Int32} {f : Nat → Int32} {g : Nat → Nat → Int32} {n2 : Nat → Nat → Int64} {p : Nat → Nat → Int32} {pa : Nat → Nat → Nat → Int32} {s : Nat → Nat → Int32} {sa : Nat → Nat → Nat → Int32} {sw : Bool} {t : List jE} {z : Nat × Nat × Nat × (Nat → Int32)}  : jev D 51 27 ([some (.ref 1), d1], []) [.int u0] (jX f g n2 p pa s sa sw (.ref (jpl w)) t, z) = K_r_readLine_43 D w u0 f g n2 p pa s sa sw t z := by
  cases w
  · exact jev_blk 2 rfl
  · exact jev_blk 2 rfl
set_option maxRecDepth 20000 in
theorem E_r_readLine_42 {D : Nat} {w : Bool} {d1 : Option Value} {u0 : Int32} {f : Nat → Int32} {g : Nat → Nat → Int32} {n2 : Nat → Nat → Int64} {p : Nat → Nat → Int32} {pa : Nat → Nat → Nat → Int32} {s : Nat → Nat → Int32} {sa : Nat → Nat → Nat → Int32} {sw : Bool} {t : List jE} {z : Nat × Nat × Nat × (Nat → Int32)}  : jev D 51 42 ([some (.ref 1), d1], []) [.int u0] (jX f g n2 p pa s sa sw (.ref (jpl w)) t, z) = K_r_readLine_43 D w u0 f g n2 p pa s sa sw t z := by
  cases w
  · exact jev_blk 1 rfl
  · exact jev_blk 1 rfl
set_option maxRecDepth 20000 in
theorem E_r_readLine_35 {D : Nat} {w : Bool} {d1 : Option Value} {u0 : Int32} {f : Nat → Int32} {g : Nat → Nat → Int32} {n2 : Nat → Nat → Int64} {p : Nat → Nat → Int32} {pa : Nat → Nat → Nat → Int32} {s : Nat → Nat → Int32} {sa : Nat → Nat → Nat → Int32} {sw : Bool} {t : List jE} {z : Nat × Nat × Nat × (Nat → Int32)}  : jev D 51 35 ([some (.ref 1), d1], []) [.int u0] (jX f g n2 p pa s sa sw (.ref (jpl w)) t, z) = K_r_readLine_43 D w u0 f g n2 p pa s sa sw t z := by
  cases w
  · exact jev_blk 2 rfl
  · exact jev_blk 2 rfl
set_option maxRecDepth 20000 in
theorem E_r_readLine_31 {D : Nat} {w : Bool} {d1 : Option Value} {u0 : Int32} {f : Nat → Int32} {g : Nat → Nat → Int32} {n2 : Nat → Nat → Int64} {p : Nat → Nat → Int32} {pa : Nat → Nat → Nat → Int32} {s : Nat → Nat → Int32} {sa : Nat → Nat → Nat → Int32} {sw : Bool} {t : List jE} {z : Nat × Nat × Nat × (Nat → Int32)}  : jev D 51 31 ([some (.ref 1), d1], []) [.int u0] (jX f g n2 p pa s sa sw (.ref (jpl w)) t, z) = K_r_readLine_43 D w u0 f g n2 p pa s sa sw t z := by
  cases w
  · exact jev_blk 2 rfl
  · exact jev_blk 2 rfl
set_option maxRecDepth 20000 in
theorem E_r_readLine_8 {D : Nat} {w : Bool} {d1 : Option Value} {u0 : Int32} {f : Nat → Int32} {g : Nat → Nat → Int32} {n2 : Nat → Nat → Int64} {p : Nat → Nat → Int32} {pa : Nat → Nat → Nat → Int32} {s : Nat → Nat → Int32} {sa : Nat → Nat → Nat → Int32} {sw : Bool} {t : List jE} {z : Nat × Nat × Nat × (Nat → Int32)}  : jev D 51 8 ([some (.ref 1), d1], []) [.int u0] (jX f g n2 p pa s sa sw (.ref (jpl w)) t, z) = if u0 = 0 ∨ u0 = 1 then some (.inl (some (.int u0)), (jX f g n2 p pa s sa sw (.ref (jpl w)) t, z)) else none := by
  cases w
  · exact jev_fing rfl
  · exact jev_fing rfl
set_option maxRecDepth 20000 in
theorem E_r_readLine_51 {D : Nat} {w : Bool} {d1 : Option Value} {u0 : Int32} {f : Nat → Int32} {g : Nat → Nat → Int32} {n2 : Nat → Nat → Int64} {p : Nat → Nat → Int32} {pa : Nat → Nat → Nat → Int32} {s : Nat → Nat → Int32} {sa : Nat → Nat → Nat → Int32} {sw : Bool} {t : List jE} {z : Nat × Nat × Nat × (Nat → Int32)}  : jev D 51 51 ([some (.ref 1), d1], []) [.int u0] (jX f g n2 p pa s sa sw (.ref (jpl w)) t, z) = if u0 = 0 then (jbO (K_r_fail D w 1 f g n2 p pa s sa sw t z) (jk D 51 55 ([some (.ref 1), d1], []) [])) else (jbO (K_k_step D f g n2 p pa s sa sw (.ref (jpl w)) t z) (jk D 51 59 ([some (.ref 1), d1], []) [])) := by
  cases w
  · refine (jev_blk 1 (pc' := if u0 = 0 then 52 else 56) (L' := ([some (.ref 1), d1], [])) (S' := []) (h' := (jX f g n2 p pa s sa sw (.ref (jpl false)) t, z)) rfl).trans (jev_ite.trans (jite_congr (fun _ => ?_) (fun _ => ?_)))
    · refine (jev_blk 2 (pc' := 54) (L' := ([some (.ref 1), d1], [])) (S' := [.int 1, .ref 1]) (h' := (jX f g n2 p pa s sa sw (.ref (jpl false)) t, z)) rfl).trans ?_
      exact jev_callb (nx := 55) (rest := []) rfl
    · refine (jev_blk 2 (pc' := 58) (L' := ([some (.ref 1), d1], [])) (S' := [.ref 2]) (h' := (jX f g n2 p pa s sa sw (.ref (jpl false)) t, z)) rfl).trans ?_
      exact jev_callb (nx := 59) (rest := []) rfl
  · refine (jev_blk 1 (pc' := if u0 = 0 then 52 else 56) (L' := ([some (.ref 1), d1], [])) (S' := []) (h' := (jX f g n2 p pa s sa sw (.ref (jpl true)) t, z)) rfl).trans (jev_ite.trans (jite_congr (fun _ => ?_) (fun _ => ?_)))
    · refine (jev_blk 2 (pc' := 54) (L' := ([some (.ref 1), d1], [])) (S' := [.int 1, .ref 1]) (h' := (jX f g n2 p pa s sa sw (.ref (jpl true)) t, z)) rfl).trans ?_
      exact jev_callb (nx := 55) (rest := []) rfl
    · refine (jev_blk 2 (pc' := 58) (L' := ([some (.ref 1), d1], [])) (S' := [.ref 2]) (h' := (jX f g n2 p pa s sa sw (.ref (jpl true)) t, z)) rfl).trans ?_
      exact jev_callb (nx := 59) (rest := []) rfl
set_option maxRecDepth 20000 in
theorem E_r_readLine_55 {D : Nat} {w : Bool} {d1 : Option Value} {u0 : Int32} {f : Nat → Int32} {g : Nat → Nat → Int32} {n2 : Nat → Nat → Int64} {p : Nat → Nat → Int32} {pa : Nat → Nat → Nat → Int32} {s : Nat → Nat → Int32} {sa : Nat → Nat → Nat → Int32} {sw : Bool} {t : List jE} {z : Nat × Nat × Nat × (Nat → Int32)}  : jev D 51 55 ([some (.ref 1), d1], []) [.int u0] (jX f g n2 p pa s sa sw (.ref (jpl w)) t, z) = if u0 = 0 ∨ u0 = 1 then some (.inl (some (.int u0)), (jX f g n2 p pa s sa sw (.ref (jpl w)) t, z)) else none := by
  cases w
  · exact jev_fing rfl
  · exact jev_fing rfl
set_option maxRecDepth 20000 in
theorem E_r_readLine_59 {D : Nat} {w : Bool} {d1 : Option Value} {f : Nat → Int32} {g : Nat → Nat → Int32} {n2 : Nat → Nat → Int64} {p : Nat → Nat → Int32} {pa : Nat → Nat → Nat → Int32} {s : Nat → Nat → Int32} {sa : Nat → Nat → Nat → Int32} {sw : Bool} {t : List jE} {z : Nat × Nat × Nat × (Nat → Int32)}  : jev D 51 59 ([some (.ref 1), d1], []) [] (jX f g n2 p pa s sa sw (.ref (jpl w)) t, z) = some (.inl (some (.int 1)), (jX f g n2 (jup p (jq w) (jup (p (jq w)) 0 (((p (jq w) 0) + 1)))) pa s sa sw (.ref (jpl w)) t, z)) := by
  cases w
  · refine (jev_blk 8 (pc' := 67) (L' := ([some (.ref 1), d1], [])) (S' := [.int 1]) (h' := (jX f g n2 (jup p (jq false) (jup (p (jq false)) 0 (((p (jq false) 0) + 1)))) pa s sa sw (.ref (jpl false)) t, z)) rfl).trans ?_
    exact jev_fin rfl
  · refine (jev_blk 8 (pc' := 67) (L' := ([some (.ref 1), d1], [])) (S' := [.int 1]) (h' := (jX f g n2 (jup p (jq true) (jup (p (jq true)) 0 (((p (jq true) 0) + 1)))) pa s sa sw (.ref (jpl true)) t, z)) rfl).trans ?_
    exact jev_fin rfl
set_option maxRecDepth 20000 in
theorem E_r_isNumber {D : Nat} {w : Bool} {a0 : Int32} {a1 : Int32} {f : Nat → Int32} {g : Nat → Nat → Int32} {n2 : Nat → Nat → Int64} {p : Nat → Nat → Int32} {pa : Nat → Nat → Nat → Int32} {s : Nat → Nat → Int32} {sa : Nat → Nat → Nat → Int32} {sw : Bool} {t : List jE} {z : Nat × Nat × Nat × (Nat → Int32)}  : K_r_isNumber D w a0 a1 f g n2 p pa s sa sw t z = if (f 11) = 2 then (if (f 12) < a0 then (K_r_isNumber_19 D w (some (.int a0)) (some (.int a1)) f g n2 p pa s sa sw t z) else (if a1 < (f 12) then (K_r_isNumber_19 D w (some (.int a0)) (some (.int a1)) f g n2 p pa s sa sw t z) else (some (.inl (some (.int 1)), (jX f g n2 p pa s sa sw (.ref (jpl w)) t, z))))) else (jbO (K_r_fail D w 1 f g n2 p pa s sa sw t z) (jk D 52 8 ([some (.ref 1), some (.int a0), some (.int a1)], []) [])) := by
  cases w
  · refine (jev_blk 5 (pc' := if (f 11) = 2 then 9 else 5) (L' := ([some (.ref 1), some (.int a0), some (.int a1)], [])) (S' := []) (h' := (jX f g n2 p pa s sa sw (.ref (jpl false)) t, z)) rfl).trans (jev_ite.trans (jite_congr (fun _ => ?_) (fun _ => ?_)))
    · refine (jev_blk 5 (pc' := if (f 12) < a0 then 19 else 14) (L' := ([some (.ref 1), some (.int a0), some (.int a1)], [])) (S' := []) (h' := (jX f g n2 p pa s sa sw (.ref (jpl false)) t, z)) rfl).trans (jev_ite.trans (jite_congr (fun _ => ?_) (fun _ => ?_)))
      · rfl
      · refine (jev_blk 5 (pc' := if a1 < (f 12) then 19 else 23) (L' := ([some (.ref 1), some (.int a0), some (.int a1)], [])) (S' := []) (h' := (jX f g n2 p pa s sa sw (.ref (jpl false)) t, z)) rfl).trans (jev_ite.trans (jite_congr (fun _ => ?_) (fun _ => ?_)))
        · rfl
        · refine (jev_blk 1 (pc' := 24) (L' := ([some (.ref 1), some (.int a0), some (.int a1)], [])) (S' := [.int 1]) (h' := (jX f g n2 p pa s sa sw (.ref (jpl false)) t, z)) rfl).trans ?_
          exact jev_fin rfl
    · refine (jev_blk 2 (pc' := 7) (L' := ([some (.ref 1), some (.int a0), some (.int a1)], [])) (S' := [.int 1, .ref 1]) (h' := (jX f g n2 p pa s sa sw (.ref (jpl false)) t, z)) rfl).trans ?_
      exact jev_callb (nx := 8) (rest := []) rfl
  · refine (jev_blk 5 (pc' := if (f 11) = 2 then 9 else 5) (L' := ([some (.ref 1), some (.int a0), some (.int a1)], [])) (S' := []) (h' := (jX f g n2 p pa s sa sw (.ref (jpl true)) t, z)) rfl).trans (jev_ite.trans (jite_congr (fun _ => ?_) (fun _ => ?_)))
    · refine (jev_blk 5 (pc' := if (f 12) < a0 then 19 else 14) (L' := ([some (.ref 1), some (.int a0), some (.int a1)], [])) (S' := []) (h' := (jX f g n2 p pa s sa sw (.ref (jpl true)) t, z)) rfl).trans (jev_ite.trans (jite_congr (fun _ => ?_) (fun _ => ?_)))
      · rfl
      · refine (jev_blk 5 (pc' := if a1 < (f 12) then 19 else 23) (L' := ([some (.ref 1), some (.int a0), some (.int a1)], [])) (S' := []) (h' := (jX f g n2 p pa s sa sw (.ref (jpl true)) t, z)) rfl).trans (jev_ite.trans (jite_congr (fun _ => ?_) (fun _ => ?_)))
        · rfl
        · refine (jev_blk 1 (pc' := 24) (L' := ([some (.ref 1), some (.int a0), some (.int a1)], [])) (S' := [.int 1]) (h' := (jX f g n2 p pa s sa sw (.ref (jpl true)) t, z)) rfl).trans ?_
          exact jev_fin rfl
    · refine (jev_blk 2 (pc' := 7) (L' := ([some (.ref 1), some (.int a0), some (.int a1)], [])) (S' := [.int 1, .ref 1]) (h' := (jX f g n2 p pa s sa sw (.ref (jpl true)) t, z)) rfl).trans ?_
      exact jev_callb (nx := 8) (rest := []) rfl
set_option maxRecDepth 20000 in
theorem E_r_isNumber_19 {D : Nat} {w : Bool} {d1 : Option Value} {d2 : Option Value} {f : Nat → Int32} {g : Nat → Nat → Int32} {n2 : Nat → Nat → Int64} {p : Nat → Nat → Int32} {pa : Nat → Nat → Nat → Int32} {s : Nat → Nat → Int32} {sa : Nat → Nat → Nat → Int32} {sw : Bool} {t : List jE} {z : Nat × Nat × Nat × (Nat → Int32)}  : K_r_isNumber_19 D w d1 d2 f g n2 p pa s sa sw t z = jbO (K_r_fail D w 2 f g n2 p pa s sa sw t z) (jk D 52 22 ([some (.ref 1), d1, d2], []) []) := by
  cases w
  · refine (jev_blk 2 (pc' := 21) (L' := ([some (.ref 1), d1, d2], [])) (S' := [.int 2, .ref 1]) (h' := (jX f g n2 p pa s sa sw (.ref (jpl false)) t, z)) rfl).trans ?_
    exact jev_callb (nx := 22) (rest := []) rfl
  · refine (jev_blk 2 (pc' := 21) (L' := ([some (.ref 1), d1, d2], [])) (S' := [.int 2, .ref 1]) (h' := (jX f g n2 p pa s sa sw (.ref (jpl true)) t, z)) rfl).trans ?_
    exact jev_callb (nx := 22) (rest := []) rfl
set_option maxRecDepth 20000 in
theorem E_r_isNumber_8 {D : Nat} {w : Bool} {d1 : Option Value} {d2 : Option Value} {u0 : Int32} {f : Nat → Int32} {g : Nat → Nat → Int32} {n2 : Nat → Nat → Int64} {p : Nat → Nat → Int32} {pa : Nat → Nat → Nat → Int32} {s : Nat → Nat → Int32} {sa : Nat → Nat → Nat → Int32} {sw : Bool} {t : List jE} {z : Nat × Nat × Nat × (Nat → Int32)}  : jev D 52 8 ([some (.ref 1), d1, d2], []) [.int u0] (jX f g n2 p pa s sa sw (.ref (jpl w)) t, z) = if u0 = 0 ∨ u0 = 1 then some (.inl (some (.int u0)), (jX f g n2 p pa s sa sw (.ref (jpl w)) t, z)) else none := by
  cases w
  · exact jev_fing rfl
  · exact jev_fing rfl
set_option maxRecDepth 20000 in
theorem E_r_isNumber_22 {D : Nat} {w : Bool} {d1 : Option Value} {d2 : Option Value} {u0 : Int32} {f : Nat → Int32} {g : Nat → Nat → Int32} {n2 : Nat → Nat → Int64} {p : Nat → Nat → Int32} {pa : Nat → Nat → Nat → Int32} {s : Nat → Nat → Int32} {sa : Nat → Nat → Nat → Int32} {sw : Bool} {t : List jE} {z : Nat × Nat × Nat × (Nat → Int32)}  : jev D 52 22 ([some (.ref 1), d1, d2], []) [.int u0] (jX f g n2 p pa s sa sw (.ref (jpl w)) t, z) = if u0 = 0 ∨ u0 = 1 then some (.inl (some (.int u0)), (jX f g n2 p pa s sa sw (.ref (jpl w)) t, z)) else none := by
  cases w
  · exact jev_fing rfl
  · exact jev_fing rfl
set_option maxRecDepth 20000 in
theorem E_r_take {D : Nat} {w : Bool}  {f : Nat → Int32} {g : Nat → Nat → Int32} {n2 : Nat → Nat → Int64} {p : Nat → Nat → Int32} {pa : Nat → Nat → Nat → Int32} {s : Nat → Nat → Int32} {sa : Nat → Nat → Nat → Int32} {sw : Bool} {t : List jE} {z : Nat × Nat × Nat × (Nat → Int32)}  : K_r_take D w f g n2 p pa s sa sw t z = jbO (K_k_step D f g n2 p pa s sa sw (.ref (jpl w)) t z) (jk D 53 7 ([some (.ref 1), some (.int (f 12))], []) []) := by
  cases w
  · refine (jev_blk 6 (pc' := 6) (L' := ([some (.ref 1), some (.int (f 12))], [])) (S' := [.ref 2]) (h' := (jX f g n2 p pa s sa sw (.ref (jpl false)) t, z)) rfl).trans ?_
    exact jev_callb (nx := 7) (rest := []) rfl
  · refine (jev_blk 6 (pc' := 6) (L' := ([some (.ref 1), some (.int (f 12))], [])) (S' := [.ref 2]) (h' := (jX f g n2 p pa s sa sw (.ref (jpl true)) t, z)) rfl).trans ?_
    exact jev_callb (nx := 7) (rest := []) rfl
set_option maxRecDepth 20000 in
theorem E_r_take_7 {D : Nat} {w : Bool} {x1 : Int32} {f : Nat → Int32} {g : Nat → Nat → Int32} {n2 : Nat → Nat → Int64} {p : Nat → Nat → Int32} {pa : Nat → Nat → Nat → Int32} {s : Nat → Nat → Int32} {sa : Nat → Nat → Nat → Int32} {sw : Bool} {t : List jE} {z : Nat × Nat × Nat × (Nat → Int32)}  : jev D 53 7 ([some (.ref 1), some (.int x1)], []) [] (jX f g n2 p pa s sa sw (.ref (jpl w)) t, z) = some (.inl (some (.int x1)), (jX f g n2 p pa s sa sw (.ref (jpl w)) t, z)) := by
  cases w
  · refine (jev_blk 1 (pc' := 8) (L' := ([some (.ref 1), some (.int x1)], [])) (S' := [.int x1]) (h' := (jX f g n2 p pa s sa sw (.ref (jpl false)) t, z)) rfl).trans ?_
    exact jev_fin rfl
  · refine (jev_blk 1 (pc' := 8) (L' := ([some (.ref 1), some (.int x1)], [])) (S' := [.int x1]) (h' := (jX f g n2 p pa s sa sw (.ref (jpl true)) t, z)) rfl).trans ?_
    exact jev_fin rfl
set_option maxRecDepth 20000 in
theorem E_r_isFirst {D : Nat} {w : Bool} {a0 : Int32} {f : Nat → Int32} {g : Nat → Nat → Int32} {n2 : Nat → Nat → Int64} {p : Nat → Nat → Int32} {pa : Nat → Nat → Nat → Int32} {s : Nat → Nat → Int32} {sa : Nat → Nat → Nat → Int32} {sw : Bool} {t : List jE} {z : Nat × Nat × Nat × (Nat → Int32)}  : K_r_isFirst D w a0 f g n2 p pa s sa sw t z = if (((f 2) >>> (a0 &&& 31)) &&& 1) = 0 then (some (.inl (some (.int 1)), (jX (jup f 2 (((f 2) ||| (1 <<< (a0 &&& 31))))) g n2 p pa s sa sw (.ref (jpl w)) t, z))) else (jbO (K_r_fail D w 3 f g n2 p pa s sa sw t z) (jk D 54 10 ([some (.ref 1), some (.int a0)], []) [])) := by
  cases w
  · refine (jev_blk 7 (pc' := if (((f 2) >>> (a0 &&& 31)) &&& 1) = 0 then 11 else 7) (L' := ([some (.ref 1), some (.int a0)], [])) (S' := []) (h' := (jX f g n2 p pa s sa sw (.ref (jpl false)) t, z)) rfl).trans (jev_ite.trans (jite_congr (fun _ => ?_) (fun _ => ?_)))
    · refine (jev_blk 9 (pc' := 20) (L' := ([some (.ref 1), some (.int a0)], [])) (S' := [.int 1]) (h' := (jX (jup f 2 (((f 2) ||| (1 <<< (a0 &&& 31))))) g n2 p pa s sa sw (.ref (jpl false)) t, z)) rfl).trans ?_
      exact jev_fin rfl
    · refine (jev_blk 2 (pc' := 9) (L' := ([some (.ref 1), some (.int a0)], [])) (S' := [.int 3, .ref 1]) (h' := (jX f g n2 p pa s sa sw (.ref (jpl false)) t, z)) rfl).trans ?_
      exact jev_callb (nx := 10) (rest := []) rfl
  · refine (jev_blk 7 (pc' := if (((f 2) >>> (a0 &&& 31)) &&& 1) = 0 then 11 else 7) (L' := ([some (.ref 1), some (.int a0)], [])) (S' := []) (h' := (jX f g n2 p pa s sa sw (.ref (jpl true)) t, z)) rfl).trans (jev_ite.trans (jite_congr (fun _ => ?_) (fun _ => ?_)))
    · refine (jev_blk 9 (pc' := 20) (L' := ([some (.ref 1), some (.int a0)], [])) (S' := [.int 1]) (h' := (jX (jup f 2 (((f 2) ||| (1 <<< (a0 &&& 31))))) g n2 p pa s sa sw (.ref (jpl true)) t, z)) rfl).trans ?_
      exact jev_fin rfl
    · refine (jev_blk 2 (pc' := 9) (L' := ([some (.ref 1), some (.int a0)], [])) (S' := [.int 3, .ref 1]) (h' := (jX f g n2 p pa s sa sw (.ref (jpl true)) t, z)) rfl).trans ?_
      exact jev_callb (nx := 10) (rest := []) rfl
set_option maxRecDepth 20000 in
theorem E_r_isFirst_10 {D : Nat} {w : Bool} {d1 : Option Value} {u0 : Int32} {f : Nat → Int32} {g : Nat → Nat → Int32} {n2 : Nat → Nat → Int64} {p : Nat → Nat → Int32} {pa : Nat → Nat → Nat → Int32} {s : Nat → Nat → Int32} {sa : Nat → Nat → Nat → Int32} {sw : Bool} {t : List jE} {z : Nat × Nat × Nat × (Nat → Int32)}  : jev D 54 10 ([some (.ref 1), d1], []) [.int u0] (jX f g n2 p pa s sa sw (.ref (jpl w)) t, z) = if u0 = 0 ∨ u0 = 1 then some (.inl (some (.int u0)), (jX f g n2 p pa s sa sw (.ref (jpl w)) t, z)) else none := by
  cases w
  · exact jev_fing rfl
  · exact jev_fing rfl
set_option maxRecDepth 20000 in
theorem E_r_readField {D : Nat} {w : Bool}  {f : Nat → Int32} {g : Nat → Nat → Int32} {n2 : Nat → Nat → Int64} {p : Nat → Nat → Int32} {pa : Nat → Nat → Nat → Int32} {s : Nat → Nat → Int32} {sa : Nat → Nat → Nat → Int32} {sw : Bool} {t : List jE} {z : Nat × Nat × Nat × (Nat → Int32)}  : K_r_readField D w f g n2 p pa s sa sw t z = jbO (K_r_isFirst D w 0 f g n2 p pa s sa sw t z) (jk D 55 3 ([some (.ref 1)], []) []) := by
  cases w
  · refine (jev_blk 2 (pc' := 2) (L' := ([some (.ref 1)], [])) (S' := [.int 0, .ref 1]) (h' := (jX f g n2 p pa s sa sw (.ref (jpl false)) t, z)) rfl).trans ?_
    exact jev_callb (nx := 3) (rest := []) rfl
  · refine (jev_blk 2 (pc' := 2) (L' := ([some (.ref 1)], [])) (S' := [.int 0, .ref 1]) (h' := (jX f g n2 p pa s sa sw (.ref (jpl true)) t, z)) rfl).trans ?_
    exact jev_callb (nx := 3) (rest := []) rfl
set_option maxRecDepth 20000 in
theorem E_r_readField_3 {D : Nat} {w : Bool} {u0 : Int32} {f : Nat → Int32} {g : Nat → Nat → Int32} {n2 : Nat → Nat → Int64} {p : Nat → Nat → Int32} {pa : Nat → Nat → Nat → Int32} {s : Nat → Nat → Int32} {sa : Nat → Nat → Nat → Int32} {sw : Bool} {t : List jE} {z : Nat × Nat × Nat × (Nat → Int32)}  : jev D 55 3 ([some (.ref 1)], []) [.int u0] (jX f g n2 p pa s sa sw (.ref (jpl w)) t, z) = if u0 = 0 then (some (.inl (some (.int 0)), (jX f g n2 p pa s sa sw (.ref (jpl w)) t, z))) else (if (f 5) = 0 then (jbO (K_k_step D f g n2 p pa s sa sw (.ref (jpl w)) t z) (jk D 55 16 ([some (.ref 1)], []) [])) else (jbO (K_r_fail D w 4 f g n2 p pa s sa sw t z) (jk D 55 12 ([some (.ref 1)], []) []))) := by
  cases w
  · refine (jev_blk 1 (pc' := if u0 = 0 then 4 else 6) (L' := ([some (.ref 1)], [])) (S' := []) (h' := (jX f g n2 p pa s sa sw (.ref (jpl false)) t, z)) rfl).trans (jev_ite.trans (jite_congr (fun _ => ?_) (fun _ => ?_)))
    · refine (jev_blk 1 (pc' := 5) (L' := ([some (.ref 1)], [])) (S' := [.int 0]) (h' := (jX f g n2 p pa s sa sw (.ref (jpl false)) t, z)) rfl).trans ?_
      exact jev_fin rfl
    · refine (jev_blk 3 (pc' := if (f 5) = 0 then 13 else 9) (L' := ([some (.ref 1)], [])) (S' := []) (h' := (jX f g n2 p pa s sa sw (.ref (jpl false)) t, z)) rfl).trans (jev_ite.trans (jite_congr (fun _ => ?_) (fun _ => ?_)))
      · refine (jev_blk 2 (pc' := 15) (L' := ([some (.ref 1)], [])) (S' := [.ref 2]) (h' := (jX f g n2 p pa s sa sw (.ref (jpl false)) t, z)) rfl).trans ?_
        exact jev_callb (nx := 16) (rest := []) rfl
      · refine (jev_blk 2 (pc' := 11) (L' := ([some (.ref 1)], [])) (S' := [.int 4, .ref 1]) (h' := (jX f g n2 p pa s sa sw (.ref (jpl false)) t, z)) rfl).trans ?_
        exact jev_callb (nx := 12) (rest := []) rfl
  · refine (jev_blk 1 (pc' := if u0 = 0 then 4 else 6) (L' := ([some (.ref 1)], [])) (S' := []) (h' := (jX f g n2 p pa s sa sw (.ref (jpl true)) t, z)) rfl).trans (jev_ite.trans (jite_congr (fun _ => ?_) (fun _ => ?_)))
    · refine (jev_blk 1 (pc' := 5) (L' := ([some (.ref 1)], [])) (S' := [.int 0]) (h' := (jX f g n2 p pa s sa sw (.ref (jpl true)) t, z)) rfl).trans ?_
      exact jev_fin rfl
    · refine (jev_blk 3 (pc' := if (f 5) = 0 then 13 else 9) (L' := ([some (.ref 1)], [])) (S' := []) (h' := (jX f g n2 p pa s sa sw (.ref (jpl true)) t, z)) rfl).trans (jev_ite.trans (jite_congr (fun _ => ?_) (fun _ => ?_)))
      · refine (jev_blk 2 (pc' := 15) (L' := ([some (.ref 1)], [])) (S' := [.ref 2]) (h' := (jX f g n2 p pa s sa sw (.ref (jpl true)) t, z)) rfl).trans ?_
        exact jev_callb (nx := 16) (rest := []) rfl
      · refine (jev_blk 2 (pc' := 11) (L' := ([some (.ref 1)], [])) (S' := [.int 4, .ref 1]) (h' := (jX f g n2 p pa s sa sw (.ref (jpl true)) t, z)) rfl).trans ?_
        exact jev_callb (nx := 12) (rest := []) rfl
set_option maxRecDepth 20000 in
theorem E_r_readField_16 {D : Nat} {w : Bool}  {f : Nat → Int32} {g : Nat → Nat → Int32} {n2 : Nat → Nat → Int64} {p : Nat → Nat → Int32} {pa : Nat → Nat → Nat → Int32} {s : Nat → Nat → Int32} {sa : Nat → Nat → Nat → Int32} {sw : Bool} {t : List jE} {z : Nat × Nat × Nat × (Nat → Int32)}  : jev D 55 16 ([some (.ref 1)], []) [] (jX f g n2 p pa s sa sw (.ref (jpl w)) t, z) = jbO (K_r_isNumber D w 1 6 f g n2 p pa s sa sw t z) (jk D 55 20 ([some (.ref 1)], []) []) := by
  cases w
  · refine (jev_blk 3 (pc' := 19) (L' := ([some (.ref 1)], [])) (S' := [.int 6, .int 1, .ref 1]) (h' := (jX f g n2 p pa s sa sw (.ref (jpl false)) t, z)) rfl).trans ?_
    exact jev_callb (nx := 20) (rest := []) rfl
  · refine (jev_blk 3 (pc' := 19) (L' := ([some (.ref 1)], [])) (S' := [.int 6, .int 1, .ref 1]) (h' := (jX f g n2 p pa s sa sw (.ref (jpl true)) t, z)) rfl).trans ?_
    exact jev_callb (nx := 20) (rest := []) rfl
set_option maxRecDepth 20000 in
theorem E_r_readField_12 {D : Nat} {w : Bool} {u0 : Int32} {f : Nat → Int32} {g : Nat → Nat → Int32} {n2 : Nat → Nat → Int64} {p : Nat → Nat → Int32} {pa : Nat → Nat → Nat → Int32} {s : Nat → Nat → Int32} {sa : Nat → Nat → Nat → Int32} {sw : Bool} {t : List jE} {z : Nat × Nat × Nat × (Nat → Int32)}  : jev D 55 12 ([some (.ref 1)], []) [.int u0] (jX f g n2 p pa s sa sw (.ref (jpl w)) t, z) = if u0 = 0 ∨ u0 = 1 then some (.inl (some (.int u0)), (jX f g n2 p pa s sa sw (.ref (jpl w)) t, z)) else none := by
  cases w
  · exact jev_fing rfl
  · exact jev_fing rfl
set_option maxRecDepth 20000 in
theorem E_r_readField_20 {D : Nat} {w : Bool} {u0 : Int32} {f : Nat → Int32} {g : Nat → Nat → Int32} {n2 : Nat → Nat → Int64} {p : Nat → Nat → Int32} {pa : Nat → Nat → Nat → Int32} {s : Nat → Nat → Int32} {sa : Nat → Nat → Nat → Int32} {sw : Bool} {t : List jE} {z : Nat × Nat × Nat × (Nat → Int32)}  : jev D 55 20 ([some (.ref 1)], []) [.int u0] (jX f g n2 p pa s sa sw (.ref (jpl w)) t, z) = if u0 = 0 then (some (.inl (some (.int 0)), (jX f g n2 p pa s sa sw (.ref (jpl w)) t, z))) else (jbO (K_r_take D w f g n2 p pa s sa sw t z) (jk D 55 27 ([some (.ref 1)], []) [.ref (jpl w)])) := by
  cases w
  · refine (jev_blk 1 (pc' := if u0 = 0 then 21 else 23) (L' := ([some (.ref 1)], [])) (S' := []) (h' := (jX f g n2 p pa s sa sw (.ref (jpl false)) t, z)) rfl).trans (jev_ite.trans (jite_congr (fun _ => ?_) (fun _ => ?_)))
    · refine (jev_blk 1 (pc' := 22) (L' := ([some (.ref 1)], [])) (S' := [.int 0]) (h' := (jX f g n2 p pa s sa sw (.ref (jpl false)) t, z)) rfl).trans ?_
      exact jev_fin rfl
    · refine (jev_blk 3 (pc' := 26) (L' := ([some (.ref 1)], [])) (S' := [.ref 1, .ref (jpl false)]) (h' := (jX f g n2 p pa s sa sw (.ref (jpl false)) t, z)) rfl).trans ?_
      exact jev_callb (nx := 27) (rest := [.ref (jpl false)]) rfl
  · refine (jev_blk 1 (pc' := if u0 = 0 then 21 else 23) (L' := ([some (.ref 1)], [])) (S' := []) (h' := (jX f g n2 p pa s sa sw (.ref (jpl true)) t, z)) rfl).trans (jev_ite.trans (jite_congr (fun _ => ?_) (fun _ => ?_)))
    · refine (jev_blk 1 (pc' := 22) (L' := ([some (.ref 1)], [])) (S' := [.int 0]) (h' := (jX f g n2 p pa s sa sw (.ref (jpl true)) t, z)) rfl).trans ?_
      exact jev_fin rfl
    · refine (jev_blk 3 (pc' := 26) (L' := ([some (.ref 1)], [])) (S' := [.ref 1, .ref (jpl true)]) (h' := (jX f g n2 p pa s sa sw (.ref (jpl true)) t, z)) rfl).trans ?_
      exact jev_callb (nx := 27) (rest := [.ref (jpl true)]) rfl
set_option maxRecDepth 20000 in
theorem E_r_readField_27 {D : Nat} {w : Bool} {u0 : Int32} {f : Nat → Int32} {g : Nat → Nat → Int32} {n2 : Nat → Nat → Int64} {p : Nat → Nat → Int32} {pa : Nat → Nat → Nat → Int32} {s : Nat → Nat → Int32} {sa : Nat → Nat → Nat → Int32} {sw : Bool} {t : List jE} {z : Nat × Nat × Nat × (Nat → Int32)}  : jev D 55 27 ([some (.ref 1)], []) [.int u0, .ref (jpl w)] (jX f g n2 p pa s sa sw (.ref (jpl w)) t, z) = jbO (K_r_isNumber D w 1 5 f g n2 (jup p (jq w) (jup (p (jq w)) 1 (u0))) pa s sa sw t z) (jk D 55 32 ([some (.ref 1)], []) []) := by
  cases w
  · refine (jev_blk 4 (pc' := 31) (L' := ([some (.ref 1)], [])) (S' := [.int 5, .int 1, .ref 1]) (h' := (jX f g n2 (jup p (jq false) (jup (p (jq false)) 1 (u0))) pa s sa sw (.ref (jpl false)) t, z)) rfl).trans ?_
    exact jev_callb (nx := 32) (rest := []) rfl
  · refine (jev_blk 4 (pc' := 31) (L' := ([some (.ref 1)], [])) (S' := [.int 5, .int 1, .ref 1]) (h' := (jX f g n2 (jup p (jq true) (jup (p (jq true)) 1 (u0))) pa s sa sw (.ref (jpl true)) t, z)) rfl).trans ?_
    exact jev_callb (nx := 32) (rest := []) rfl
set_option maxRecDepth 20000 in
theorem E_r_readField_32 {D : Nat} {w : Bool} {u0 : Int32} {f : Nat → Int32} {g : Nat → Nat → Int32} {n2 : Nat → Nat → Int64} {p : Nat → Nat → Int32} {pa : Nat → Nat → Nat → Int32} {s : Nat → Nat → Int32} {sa : Nat → Nat → Nat → Int32} {sw : Bool} {t : List jE} {z : Nat × Nat × Nat × (Nat → Int32)}  : jev D 55 32 ([some (.ref 1)], []) [.int u0] (jX f g n2 p pa s sa sw (.ref (jpl w)) t, z) = if u0 = 0 then (some (.inl (some (.int 0)), (jX f g n2 p pa s sa sw (.ref (jpl w)) t, z))) else (jbO (K_r_take D w f g n2 p pa s sa sw t z) (jk D 55 39 ([some (.ref 1)], []) [.ref (jpl w)])) := by
  cases w
  · refine (jev_blk 1 (pc' := if u0 = 0 then 33 else 35) (L' := ([some (.ref 1)], [])) (S' := []) (h' := (jX f g n2 p pa s sa sw (.ref (jpl false)) t, z)) rfl).trans (jev_ite.trans (jite_congr (fun _ => ?_) (fun _ => ?_)))
    · refine (jev_blk 1 (pc' := 34) (L' := ([some (.ref 1)], [])) (S' := [.int 0]) (h' := (jX f g n2 p pa s sa sw (.ref (jpl false)) t, z)) rfl).trans ?_
      exact jev_fin rfl
    · refine (jev_blk 3 (pc' := 38) (L' := ([some (.ref 1)], [])) (S' := [.ref 1, .ref (jpl false)]) (h' := (jX f g n2 p pa s sa sw (.ref (jpl false)) t, z)) rfl).trans ?_
      exact jev_callb (nx := 39) (rest := [.ref (jpl false)]) rfl
  · refine (jev_blk 1 (pc' := if u0 = 0 then 33 else 35) (L' := ([some (.ref 1)], [])) (S' := []) (h' := (jX f g n2 p pa s sa sw (.ref (jpl true)) t, z)) rfl).trans (jev_ite.trans (jite_congr (fun _ => ?_) (fun _ => ?_)))
    · refine (jev_blk 1 (pc' := 34) (L' := ([some (.ref 1)], [])) (S' := [.int 0]) (h' := (jX f g n2 p pa s sa sw (.ref (jpl true)) t, z)) rfl).trans ?_
      exact jev_fin rfl
    · refine (jev_blk 3 (pc' := 38) (L' := ([some (.ref 1)], [])) (S' := [.ref 1, .ref (jpl true)]) (h' := (jX f g n2 p pa s sa sw (.ref (jpl true)) t, z)) rfl).trans ?_
      exact jev_callb (nx := 39) (rest := [.ref (jpl true)]) rfl
set_option maxRecDepth 20000 in
theorem E_r_readField_39 {D : Nat} {w : Bool} {u0 : Int32} {f : Nat → Int32} {g : Nat → Nat → Int32} {n2 : Nat → Nat → Int64} {p : Nat → Nat → Int32} {pa : Nat → Nat → Nat → Int32} {s : Nat → Nat → Int32} {sa : Nat → Nat → Nat → Int32} {sw : Bool} {t : List jE} {z : Nat × Nat × Nat × (Nat → Int32)}  : jev D 55 39 ([some (.ref 1)], []) [.int u0, .ref (jpl w)] (jX f g n2 p pa s sa sw (.ref (jpl w)) t, z) = some (.inl (some (.int 1)), (jX f g n2 (jup p (jq w) (jup (p (jq w)) 2 (u0))) pa s sa sw (.ref (jpl w)) t, z)) := by
  cases w
  · refine (jev_blk 2 (pc' := 41) (L' := ([some (.ref 1)], [])) (S' := [.int 1]) (h' := (jX f g n2 (jup p (jq false) (jup (p (jq false)) 2 (u0))) pa s sa sw (.ref (jpl false)) t, z)) rfl).trans ?_
    exact jev_fin rfl
  · refine (jev_blk 2 (pc' := 41) (L' := ([some (.ref 1)], [])) (S' := [.int 1]) (h' := (jX f g n2 (jup p (jq true) (jup (p (jq true)) 2 (u0))) pa s sa sw (.ref (jpl true)) t, z)) rfl).trans ?_
    exact jev_fin rfl
set_option maxRecDepth 20000 in
theorem E_r_readCrop {D : Nat} {w : Bool}  {f : Nat → Int32} {g : Nat → Nat → Int32} {n2 : Nat → Nat → Int64} {p : Nat → Nat → Int32} {pa : Nat → Nat → Nat → Int32} {s : Nat → Nat → Int32} {sa : Nat → Nat → Nat → Int32} {sw : Bool} {t : List jE} {z : Nat × Nat × Nat × (Nat → Int32)}  : K_r_readCrop D w f g n2 p pa s sa sw t z = if (f 4) < 16 then (jbO (K_k_step D (jup (jup f 4 (((f 4) + 1))) 5 (1)) g n2 p pa s sa sw (.ref (jpl w)) t z) (jk D 56 20 ([some (.ref 1), none, none], []) [])) else (jbO (K_r_fail D w 2 f g n2 p pa s sa sw t z) (jk D 56 7 ([some (.ref 1), none, none], []) [])) := by
  cases w
  · refine (jev_blk 4 (pc' := if (f 4) < 16 then 8 else 4) (L' := ([some (.ref 1), none, none], [])) (S' := []) (h' := (jX f g n2 p pa s sa sw (.ref (jpl false)) t, z)) rfl).trans (jev_ite.trans (jite_congr (fun _ => ?_) (fun _ => ?_)))
    · refine (jev_blk 11 (pc' := 19) (L' := ([some (.ref 1), none, none], [])) (S' := [.ref 2]) (h' := (jX (jup (jup f 4 (((f 4) + 1))) 5 (1)) g n2 p pa s sa sw (.ref (jpl false)) t, z)) rfl).trans ?_
      exact jev_callb (nx := 20) (rest := []) rfl
    · refine (jev_blk 2 (pc' := 6) (L' := ([some (.ref 1), none, none], [])) (S' := [.int 2, .ref 1]) (h' := (jX f g n2 p pa s sa sw (.ref (jpl false)) t, z)) rfl).trans ?_
      exact jev_callb (nx := 7) (rest := []) rfl
  · refine (jev_blk 4 (pc' := if (f 4) < 16 then 8 else 4) (L' := ([some (.ref 1), none, none], [])) (S' := []) (h' := (jX f g n2 p pa s sa sw (.ref (jpl true)) t, z)) rfl).trans (jev_ite.trans (jite_congr (fun _ => ?_) (fun _ => ?_)))
    · refine (jev_blk 11 (pc' := 19) (L' := ([some (.ref 1), none, none], [])) (S' := [.ref 2]) (h' := (jX (jup (jup f 4 (((f 4) + 1))) 5 (1)) g n2 p pa s sa sw (.ref (jpl true)) t, z)) rfl).trans ?_
      exact jev_callb (nx := 20) (rest := []) rfl
    · refine (jev_blk 2 (pc' := 6) (L' := ([some (.ref 1), none, none], [])) (S' := [.int 2, .ref 1]) (h' := (jX f g n2 p pa s sa sw (.ref (jpl true)) t, z)) rfl).trans ?_
      exact jev_callb (nx := 7) (rest := []) rfl
set_option maxRecDepth 20000 in
theorem E_r_readCrop_20 {D : Nat} {w : Bool} {d1 : Option Value} {d2 : Option Value} {f : Nat → Int32} {g : Nat → Nat → Int32} {n2 : Nat → Nat → Int64} {p : Nat → Nat → Int32} {pa : Nat → Nat → Nat → Int32} {s : Nat → Nat → Int32} {sa : Nat → Nat → Nat → Int32} {sw : Bool} {t : List jE} {z : Nat × Nat × Nat × (Nat → Int32)}  : jev D 56 20 ([some (.ref 1), d1, d2], []) [] (jX f g n2 p pa s sa sw (.ref (jpl w)) t, z) = jbO (K_r_isNumber D w 0 ((p (jq w) 1) - 1) f g n2 p pa s sa sw t z) (jk D 56 28 ([some (.ref 1), d1, d2], []) []) := by
  cases w
  · refine (jev_blk 7 (pc' := 27) (L' := ([some (.ref 1), d1, d2], [])) (S' := [.int ((p (jq false) 1) - 1), .int 0, .ref 1]) (h' := (jX f g n2 p pa s sa sw (.ref (jpl false)) t, z)) rfl).trans ?_
    exact jev_callb (nx := 28) (rest := []) rfl
  · refine (jev_blk 7 (pc' := 27) (L' := ([some (.ref 1), d1, d2], [])) (S' := [.int ((p (jq true) 1) - 1), .int 0, .ref 1]) (h' := (jX f g n2 p pa s sa sw (.ref (jpl true)) t, z)) rfl).trans ?_
    exact jev_callb (nx := 28) (rest := []) rfl
set_option maxRecDepth 20000 in
theorem E_r_readCrop_7 {D : Nat} {w : Bool} {d1 : Option Value} {d2 : Option Value} {u0 : Int32} {f : Nat → Int32} {g : Nat → Nat → Int32} {n2 : Nat → Nat → Int64} {p : Nat → Nat → Int32} {pa : Nat → Nat → Nat → Int32} {s : Nat → Nat → Int32} {sa : Nat → Nat → Nat → Int32} {sw : Bool} {t : List jE} {z : Nat × Nat × Nat × (Nat → Int32)}  : jev D 56 7 ([some (.ref 1), d1, d2], []) [.int u0] (jX f g n2 p pa s sa sw (.ref (jpl w)) t, z) = if u0 = 0 ∨ u0 = 1 then some (.inl (some (.int u0)), (jX f g n2 p pa s sa sw (.ref (jpl w)) t, z)) else none := by
  cases w
  · exact jev_fing rfl
  · exact jev_fing rfl
set_option maxRecDepth 20000 in
theorem E_r_readCrop_28 {D : Nat} {w : Bool} {d1 : Option Value} {d2 : Option Value} {u0 : Int32} {f : Nat → Int32} {g : Nat → Nat → Int32} {n2 : Nat → Nat → Int64} {p : Nat → Nat → Int32} {pa : Nat → Nat → Nat → Int32} {s : Nat → Nat → Int32} {sa : Nat → Nat → Nat → Int32} {sw : Bool} {t : List jE} {z : Nat × Nat × Nat × (Nat → Int32)}  : jev D 56 28 ([some (.ref 1), d1, d2], []) [.int u0] (jX f g n2 p pa s sa sw (.ref (jpl w)) t, z) = if u0 = 0 then (some (.inl (some (.int 0)), (jX f g n2 p pa s sa sw (.ref (jpl w)) t, z))) else (jbO (K_r_take D w f g n2 p pa s sa sw t z) (jk D 56 33 ([some (.ref 1), d1, d2], []) [])) := by
  cases w
  · refine (jev_blk 1 (pc' := if u0 = 0 then 29 else 31) (L' := ([some (.ref 1), d1, d2], [])) (S' := []) (h' := (jX f g n2 p pa s sa sw (.ref (jpl false)) t, z)) rfl).trans (jev_ite.trans (jite_congr (fun _ => ?_) (fun _ => ?_)))
    · refine (jev_blk 1 (pc' := 30) (L' := ([some (.ref 1), d1, d2], [])) (S' := [.int 0]) (h' := (jX f g n2 p pa s sa sw (.ref (jpl false)) t, z)) rfl).trans ?_
      exact jev_fin rfl
    · refine (jev_blk 1 (pc' := 32) (L' := ([some (.ref 1), d1, d2], [])) (S' := [.ref 1]) (h' := (jX f g n2 p pa s sa sw (.ref (jpl false)) t, z)) rfl).trans ?_
      exact jev_callb (nx := 33) (rest := []) rfl
  · refine (jev_blk 1 (pc' := if u0 = 0 then 29 else 31) (L' := ([some (.ref 1), d1, d2], [])) (S' := []) (h' := (jX f g n2 p pa s sa sw (.ref (jpl true)) t, z)) rfl).trans (jev_ite.trans (jite_congr (fun _ => ?_) (fun _ => ?_)))
    · refine (jev_blk 1 (pc' := 30) (L' := ([some (.ref 1), d1, d2], [])) (S' := [.int 0]) (h' := (jX f g n2 p pa s sa sw (.ref (jpl true)) t, z)) rfl).trans ?_
      exact jev_fin rfl
    · refine (jev_blk 1 (pc' := 32) (L' := ([some (.ref 1), d1, d2], [])) (S' := [.ref 1]) (h' := (jX f g n2 p pa s sa sw (.ref (jpl true)) t, z)) rfl).trans ?_
      exact jev_callb (nx := 33) (rest := []) rfl
set_option maxRecDepth 20000 in
theorem E_r_readCrop_33 {D : Nat} {w : Bool} {d1 : Option Value} {d2 : Option Value} {u0 : Int32} {f : Nat → Int32} {g : Nat → Nat → Int32} {n2 : Nat → Nat → Int64} {p : Nat → Nat → Int32} {pa : Nat → Nat → Nat → Int32} {s : Nat → Nat → Int32} {sa : Nat → Nat → Nat → Int32} {sw : Bool} {t : List jE} {z : Nat × Nat × Nat × (Nat → Int32)}  : jev D 56 33 ([some (.ref 1), d1, d2], []) [.int u0] (jX f g n2 p pa s sa sw (.ref (jpl w)) t, z) = jbO (K_r_isNumber D w 0 ((p (jq w) 2) - 1) f g n2 p pa s sa sw t z) (jk D 56 42 ([some (.ref 1), some (.int u0), d2], []) []) := by
  cases w
  · refine (jev_blk 8 (pc' := 41) (L' := ([some (.ref 1), some (.int u0), d2], [])) (S' := [.int ((p (jq false) 2) - 1), .int 0, .ref 1]) (h' := (jX f g n2 p pa s sa sw (.ref (jpl false)) t, z)) rfl).trans ?_
    exact jev_callb (nx := 42) (rest := []) rfl
  · refine (jev_blk 8 (pc' := 41) (L' := ([some (.ref 1), some (.int u0), d2], [])) (S' := [.int ((p (jq true) 2) - 1), .int 0, .ref 1]) (h' := (jX f g n2 p pa s sa sw (.ref (jpl true)) t, z)) rfl).trans ?_
    exact jev_callb (nx := 42) (rest := []) rfl
set_option maxRecDepth 20000 in
theorem E_r_readCrop_42 {D : Nat} {w : Bool} {x1 : Int32} {d2 : Option Value} {u0 : Int32} {f : Nat → Int32} {g : Nat → Nat → Int32} {n2 : Nat → Nat → Int64} {p : Nat → Nat → Int32} {pa : Nat → Nat → Nat → Int32} {s : Nat → Nat → Int32} {sa : Nat → Nat → Nat → Int32} {sw : Bool} {t : List jE} {z : Nat × Nat × Nat × (Nat → Int32)}  : jev D 56 42 ([some (.ref 1), some (.int x1), d2], []) [.int u0] (jX f g n2 p pa s sa sw (.ref (jpl w)) t, z) = if u0 = 0 then (some (.inl (some (.int 0)), (jX f g n2 p pa s sa sw (.ref (jpl w)) t, z))) else (if (((f 3) >>> ((((f 12) * (p (jq w) 1)) + x1) &&& 31)) &&& 1) = 0 then (jbO (K_k_step D (jup f 3 (((f 3) ||| (1 <<< ((((f 12) * (p (jq w) 1)) + x1) &&& 31))))) g n2 p pa s sa sw (.ref (jpl w)) t z) (jk D 56 77 ([some (.ref 1), some (.int x1), some (.int (((f 12) * (p (jq w) 1)) + x1))], []) [])) else (jbO (K_r_fail D w 3 f g n2 p pa s sa sw t z) (jk D 56 65 ([some (.ref 1), some (.int x1), some (.int (((f 12) * (p (jq w) 1)) + x1))], []) []))) := by
  cases w
  · refine (jev_blk 1 (pc' := if u0 = 0 then 43 else 45) (L' := ([some (.ref 1), some (.int x1), d2], [])) (S' := []) (h' := (jX f g n2 p pa s sa sw (.ref (jpl false)) t, z)) rfl).trans (jev_ite.trans (jite_congr (fun _ => ?_) (fun _ => ?_)))
    · refine (jev_blk 1 (pc' := 44) (L' := ([some (.ref 1), some (.int x1), d2], [])) (S' := [.int 0]) (h' := (jX f g n2 p pa s sa sw (.ref (jpl false)) t, z)) rfl).trans ?_
      exact jev_fin rfl
    · refine (jev_blk 17 (pc' := if (((f 3) >>> ((((f 12) * (p (jq false) 1)) + x1) &&& 31)) &&& 1) = 0 then 66 else 62) (L' := ([some (.ref 1), some (.int x1), some (.int (((f 12) * (p (jq false) 1)) + x1))], [])) (S' := []) (h' := (jX f g n2 p pa s sa sw (.ref (jpl false)) t, z)) rfl).trans (jev_ite.trans (jite_congr (fun _ => ?_) (fun _ => ?_)))
      · refine (jev_blk 10 (pc' := 76) (L' := ([some (.ref 1), some (.int x1), some (.int (((f 12) * (p (jq false) 1)) + x1))], [])) (S' := [.ref 2]) (h' := (jX (jup f 3 (((f 3) ||| (1 <<< ((((f 12) * (p (jq false) 1)) + x1) &&& 31))))) g n2 p pa s sa sw (.ref (jpl false)) t, z)) rfl).trans ?_
        exact jev_callb (nx := 77) (rest := []) rfl
      · refine (jev_blk 2 (pc' := 64) (L' := ([some (.ref 1), some (.int x1), some (.int (((f 12) * (p (jq false) 1)) + x1))], [])) (S' := [.int 3, .ref 1]) (h' := (jX f g n2 p pa s sa sw (.ref (jpl false)) t, z)) rfl).trans ?_
        exact jev_callb (nx := 65) (rest := []) rfl
  · refine (jev_blk 1 (pc' := if u0 = 0 then 43 else 45) (L' := ([some (.ref 1), some (.int x1), d2], [])) (S' := []) (h' := (jX f g n2 p pa s sa sw (.ref (jpl true)) t, z)) rfl).trans (jev_ite.trans (jite_congr (fun _ => ?_) (fun _ => ?_)))
    · refine (jev_blk 1 (pc' := 44) (L' := ([some (.ref 1), some (.int x1), d2], [])) (S' := [.int 0]) (h' := (jX f g n2 p pa s sa sw (.ref (jpl true)) t, z)) rfl).trans ?_
      exact jev_fin rfl
    · refine (jev_blk 17 (pc' := if (((f 3) >>> ((((f 12) * (p (jq true) 1)) + x1) &&& 31)) &&& 1) = 0 then 66 else 62) (L' := ([some (.ref 1), some (.int x1), some (.int (((f 12) * (p (jq true) 1)) + x1))], [])) (S' := []) (h' := (jX f g n2 p pa s sa sw (.ref (jpl true)) t, z)) rfl).trans (jev_ite.trans (jite_congr (fun _ => ?_) (fun _ => ?_)))
      · refine (jev_blk 10 (pc' := 76) (L' := ([some (.ref 1), some (.int x1), some (.int (((f 12) * (p (jq true) 1)) + x1))], [])) (S' := [.ref 2]) (h' := (jX (jup f 3 (((f 3) ||| (1 <<< ((((f 12) * (p (jq true) 1)) + x1) &&& 31))))) g n2 p pa s sa sw (.ref (jpl true)) t, z)) rfl).trans ?_
        exact jev_callb (nx := 77) (rest := []) rfl
      · refine (jev_blk 2 (pc' := 64) (L' := ([some (.ref 1), some (.int x1), some (.int (((f 12) * (p (jq true) 1)) + x1))], [])) (S' := [.int 3, .ref 1]) (h' := (jX f g n2 p pa s sa sw (.ref (jpl true)) t, z)) rfl).trans ?_
        exact jev_callb (nx := 65) (rest := []) rfl
set_option maxRecDepth 20000 in
theorem E_r_readCrop_77 {D : Nat} {w : Bool} {d1 : Option Value} {x2 : Int32} {f : Nat → Int32} {g : Nat → Nat → Int32} {n2 : Nat → Nat → Int64} {p : Nat → Nat → Int32} {pa : Nat → Nat → Nat → Int32} {s : Nat → Nat → Int32} {sa : Nat → Nat → Nat → Int32} {sw : Bool} {t : List jE} {z : Nat × Nat × Nat × (Nat → Int32)}  : jev D 56 77 ([some (.ref 1), d1, some (.int x2)], []) [] (jX f g n2 p pa s sa sw (.ref (jpl w)) t, z) = jbO (K_r_isNumber D w 0 99 f g n2 p pa s sa sw t z) (jk D 56 81 ([some (.ref 1), d1, some (.int x2)], []) []) := by
  cases w
  · refine (jev_blk 3 (pc' := 80) (L' := ([some (.ref 1), d1, some (.int x2)], [])) (S' := [.int 99, .int 0, .ref 1]) (h' := (jX f g n2 p pa s sa sw (.ref (jpl false)) t, z)) rfl).trans ?_
    exact jev_callb (nx := 81) (rest := []) rfl
  · refine (jev_blk 3 (pc' := 80) (L' := ([some (.ref 1), d1, some (.int x2)], [])) (S' := [.int 99, .int 0, .ref 1]) (h' := (jX f g n2 p pa s sa sw (.ref (jpl true)) t, z)) rfl).trans ?_
    exact jev_callb (nx := 81) (rest := []) rfl
set_option maxRecDepth 20000 in
theorem E_r_readCrop_65 {D : Nat} {w : Bool} {d1 : Option Value} {d2 : Option Value} {u0 : Int32} {f : Nat → Int32} {g : Nat → Nat → Int32} {n2 : Nat → Nat → Int64} {p : Nat → Nat → Int32} {pa : Nat → Nat → Nat → Int32} {s : Nat → Nat → Int32} {sa : Nat → Nat → Nat → Int32} {sw : Bool} {t : List jE} {z : Nat × Nat × Nat × (Nat → Int32)}  : jev D 56 65 ([some (.ref 1), d1, d2], []) [.int u0] (jX f g n2 p pa s sa sw (.ref (jpl w)) t, z) = if u0 = 0 ∨ u0 = 1 then some (.inl (some (.int u0)), (jX f g n2 p pa s sa sw (.ref (jpl w)) t, z)) else none := by
  cases w
  · exact jev_fing rfl
  · exact jev_fing rfl
set_option maxRecDepth 20000 in
theorem E_r_readCrop_81 {D : Nat} {w : Bool} {d1 : Option Value} {x2 : Int32} {u0 : Int32} {f : Nat → Int32} {g : Nat → Nat → Int32} {n2 : Nat → Nat → Int64} {p : Nat → Nat → Int32} {pa : Nat → Nat → Nat → Int32} {s : Nat → Nat → Int32} {sa : Nat → Nat → Nat → Int32} {sw : Bool} {t : List jE} {z : Nat × Nat × Nat × (Nat → Int32)}  : jev D 56 81 ([some (.ref 1), d1, some (.int x2)], []) [.int u0] (jX f g n2 p pa s sa sw (.ref (jpl w)) t, z) = if u0 = 0 then (some (.inl (some (.int 0)), (jX f g n2 p pa s sa sw (.ref (jpl w)) t, z))) else (jbO (K_r_take D w f g n2 p pa s sa sw t z) (jk D 56 90 ([some (.ref 1), d1, some (.int x2)], []) [.int x2, .ref ((jpl w) + 1)])) := by
  cases w
  · refine (jev_blk 1 (pc' := if u0 = 0 then 82 else 84) (L' := ([some (.ref 1), d1, some (.int x2)], [])) (S' := []) (h' := (jX f g n2 p pa s sa sw (.ref (jpl false)) t, z)) rfl).trans (jev_ite.trans (jite_congr (fun _ => ?_) (fun _ => ?_)))
    · refine (jev_blk 1 (pc' := 83) (L' := ([some (.ref 1), d1, some (.int x2)], [])) (S' := [.int 0]) (h' := (jX f g n2 p pa s sa sw (.ref (jpl false)) t, z)) rfl).trans ?_
      exact jev_fin rfl
    · refine (jev_blk 5 (pc' := 89) (L' := ([some (.ref 1), d1, some (.int x2)], [])) (S' := [.ref 1, .int x2, .ref ((jpl false) + 1)]) (h' := (jX f g n2 p pa s sa sw (.ref (jpl false)) t, z)) rfl).trans ?_
      exact jev_callb (nx := 90) (rest := [.int x2, .ref ((jpl false) + 1)]) rfl
  · refine (jev_blk 1 (pc' := if u0 = 0 then 82 else 84) (L' := ([some (.ref 1), d1, some (.int x2)], [])) (S' := []) (h' := (jX f g n2 p pa s sa sw (.ref (jpl true)) t, z)) rfl).trans (jev_ite.trans (jite_congr (fun _ => ?_) (fun _ => ?_)))
    · refine (jev_blk 1 (pc' := 83) (L' := ([some (.ref 1), d1, some (.int x2)], [])) (S' := [.int 0]) (h' := (jX f g n2 p pa s sa sw (.ref (jpl true)) t, z)) rfl).trans ?_
      exact jev_fin rfl
    · refine (jev_blk 5 (pc' := 89) (L' := ([some (.ref 1), d1, some (.int x2)], [])) (S' := [.ref 1, .int x2, .ref ((jpl true) + 1)]) (h' := (jX f g n2 p pa s sa sw (.ref (jpl true)) t, z)) rfl).trans ?_
      exact jev_callb (nx := 90) (rest := [.int x2, .ref ((jpl true) + 1)]) rfl
set_option maxRecDepth 20000 in
theorem E_r_readCrop_90 {D : Nat} {w : Bool} {d1 : Option Value} {d2 : Option Value} {u0 : Int32} {u1 : Int32} {f : Nat → Int32} {g : Nat → Nat → Int32} {n2 : Nat → Nat → Int64} {p : Nat → Nat → Int32} {pa : Nat → Nat → Nat → Int32} {s : Nat → Nat → Int32} {sa : Nat → Nat → Nat → Int32} {sw : Bool} {t : List jE} {z : Nat × Nat × Nat × (Nat → Int32)}  : jev D 56 90 ([some (.ref 1), d1, d2], []) [.int u0, .int u1, .ref ((jpl w) + 1)] (jX f g n2 p pa s sa sw (.ref (jpl w)) t, z) = if jout u1 30 then none else (some (.inl (some (.int 1)), (jX f g n2 p (jup pa (jq w) (jup (pa (jq w)) 0 ((jup (pa (jq w) 0) (u1.toNatClampNeg) u0)))) s sa sw (.ref (jpl w)) t, z))) := by
  cases w
  · refine (jev_grd (q := jout u1 30) (pc' := 91) (L' := ([some (.ref 1), d1, d2], [])) (S' := []) (h' := (jX f g n2 p (jup pa (jq false) (jup (pa (jq false)) 0 ((jup (pa (jq false) 0) (u1.toNatClampNeg) u0)))) s sa sw (.ref (jpl false)) t, z)) rfl).trans (jite_congr (fun _ => rfl) (fun _ => ?_))
    refine (jev_blk 1 (pc' := 92) (L' := ([some (.ref 1), d1, d2], [])) (S' := [.int 1]) (h' := (jX f g n2 p (jup pa (jq false) (jup (pa (jq false)) 0 ((jup (pa (jq false) 0) (u1.toNatClampNeg) u0)))) s sa sw (.ref (jpl false)) t, z)) rfl).trans ?_
    exact jev_fin rfl
  · refine (jev_grd (q := jout u1 30) (pc' := 91) (L' := ([some (.ref 1), d1, d2], [])) (S' := []) (h' := (jX f g n2 p (jup pa (jq true) (jup (pa (jq true)) 0 ((jup (pa (jq true) 0) (u1.toNatClampNeg) u0)))) s sa sw (.ref (jpl true)) t, z)) rfl).trans (jite_congr (fun _ => rfl) (fun _ => ?_))
    refine (jev_blk 1 (pc' := 92) (L' := ([some (.ref 1), d1, d2], [])) (S' := [.int 1]) (h' := (jX f g n2 p (jup pa (jq true) (jup (pa (jq true)) 0 ((jup (pa (jq true) 0) (u1.toNatClampNeg) u0)))) s sa sw (.ref (jpl true)) t, z)) rfl).trans ?_
    exact jev_fin rfl
