-- EQUATIONS: one a block; E_ unfolds, L_ a loop's head
set_option maxRecDepth 20000 in
theorem E_r_readSingle_35 {D : Nat} {w : Bool} {x1 : Int32} {d2 : Option Value} {u0 : Int32} {f : Nat → Int32} {g : Nat → Nat → Int32} {n2 : Nat → Nat → Int64} {p : Nat → Nat → Int32} {pa : Nat → Nat → Nat → Int32} {s : Nat → Nat → Int32} {sa : Nat → Nat → Nat → Int32} {sw : Bool} {t : List jE} {z : Nat × Nat × Nat × (Nat → Int32)}  : jev D 61 35 ([some (.ref 1), some (.int x1), d2], []) [.int u0] (jX f g n2 p pa s sa sw (.ref (jpl w)) t, z) = if x1 = 4 then (some (.inl (some (.int 1)), (jX f g n2 (jup p (jq w) (jup (p (jq w)) 6 (u0))) pa s sa sw (.ref (jpl w)) t, z))) else (if x1 = 5 then (some (.inl (some (.int 1)), (jX f g n2 (jup p (jq w) (jup (p (jq w)) 7 (u0))) pa s sa sw (.ref (jpl w)) t, z))) else (if x1 = 6 then (some (.inl (some (.int 1)), (jX f g n2 (jup p (jq w) (jup (p (jq w)) 8 (u0))) pa s sa sw (.ref (jpl w)) t, z))) else (some (.inl (some (.int 1)), (jX f g n2 p pa s sa sw (.ref (jpl w)) t, z))))) := by
  cases w
  · refine (jev_blk 4 (pc' := if x1 = 4 then 39 else 44) (L' := ([some (.ref 1), some (.int x1), some (.int u0)], [])) (S' := []) (h' := (jX f g n2 p pa s sa sw (.ref (jpl false)) t, z)) rfl).trans (jev_ite.trans (jite_congr (fun _ => ?_) (fun _ => ?_)))
    · refine (jev_blk 6 (pc' := 60) (L' := ([some (.ref 1), some (.int x1), some (.int u0)], [])) (S' := [.int 1]) (h' := (jX f g n2 (jup p (jq false) (jup (p (jq false)) 6 (u0))) pa s sa sw (.ref (jpl false)) t, z)) rfl).trans ?_
      exact jev_fin rfl
    · refine (jev_blk 3 (pc' := if x1 = 5 then 47 else 52) (L' := ([some (.ref 1), some (.int x1), some (.int u0)], [])) (S' := []) (h' := (jX f g n2 p pa s sa sw (.ref (jpl false)) t, z)) rfl).trans (jev_ite.trans (jite_congr (fun _ => ?_) (fun _ => ?_)))
      · refine (jev_blk 6 (pc' := 60) (L' := ([some (.ref 1), some (.int x1), some (.int u0)], [])) (S' := [.int 1]) (h' := (jX f g n2 (jup p (jq false) (jup (p (jq false)) 7 (u0))) pa s sa sw (.ref (jpl false)) t, z)) rfl).trans ?_
        exact jev_fin rfl
      · refine (jev_blk 3 (pc' := if x1 = 6 then 55 else 59) (L' := ([some (.ref 1), some (.int x1), some (.int u0)], [])) (S' := []) (h' := (jX f g n2 p pa s sa sw (.ref (jpl false)) t, z)) rfl).trans (jev_ite.trans (jite_congr (fun _ => ?_) (fun _ => ?_)))
        · refine (jev_blk 5 (pc' := 60) (L' := ([some (.ref 1), some (.int x1), some (.int u0)], [])) (S' := [.int 1]) (h' := (jX f g n2 (jup p (jq false) (jup (p (jq false)) 8 (u0))) pa s sa sw (.ref (jpl false)) t, z)) rfl).trans ?_
          exact jev_fin rfl
        · refine (jev_blk 1 (pc' := 60) (L' := ([some (.ref 1), some (.int x1), some (.int u0)], [])) (S' := [.int 1]) (h' := (jX f g n2 p pa s sa sw (.ref (jpl false)) t, z)) rfl).trans ?_
          exact jev_fin rfl
  · refine (jev_blk 4 (pc' := if x1 = 4 then 39 else 44) (L' := ([some (.ref 1), some (.int x1), some (.int u0)], [])) (S' := []) (h' := (jX f g n2 p pa s sa sw (.ref (jpl true)) t, z)) rfl).trans (jev_ite.trans (jite_congr (fun _ => ?_) (fun _ => ?_)))
    · refine (jev_blk 6 (pc' := 60) (L' := ([some (.ref 1), some (.int x1), some (.int u0)], [])) (S' := [.int 1]) (h' := (jX f g n2 (jup p (jq true) (jup (p (jq true)) 6 (u0))) pa s sa sw (.ref (jpl true)) t, z)) rfl).trans ?_
      exact jev_fin rfl
    · refine (jev_blk 3 (pc' := if x1 = 5 then 47 else 52) (L' := ([some (.ref 1), some (.int x1), some (.int u0)], [])) (S' := []) (h' := (jX f g n2 p pa s sa sw (.ref (jpl true)) t, z)) rfl).trans (jev_ite.trans (jite_congr (fun _ => ?_) (fun _ => ?_)))
      · refine (jev_blk 6 (pc' := 60) (L' := ([some (.ref 1), some (.int x1), some (.int u0)], [])) (S' := [.int 1]) (h' := (jX f g n2 (jup p (jq true) (jup (p (jq true)) 7 (u0))) pa s sa sw (.ref (jpl true)) t, z)) rfl).trans ?_
        exact jev_fin rfl
      · refine (jev_blk 3 (pc' := if x1 = 6 then 55 else 59) (L' := ([some (.ref 1), some (.int x1), some (.int u0)], [])) (S' := []) (h' := (jX f g n2 p pa s sa sw (.ref (jpl true)) t, z)) rfl).trans (jev_ite.trans (jite_congr (fun _ => ?_) (fun _ => ?_)))
        · refine (jev_blk 5 (pc' := 60) (L' := ([some (.ref 1), some (.int x1), some (.int u0)], [])) (S' := [.int 1]) (h' := (jX f g n2 (jup p (jq true) (jup (p (jq true)) 8 (u0))) pa s sa sw (.ref (jpl true)) t, z)) rfl).trans ?_
          exact jev_fin rfl
        · refine (jev_blk 1 (pc' := 60) (L' := ([some (.ref 1), some (.int x1), some (.int u0)], [])) (S' := [.int 1]) (h' := (jX f g n2 p pa s sa sw (.ref (jpl true)) t, z)) rfl).trans ?_
          exact jev_fin rfl
set_option maxRecDepth 20000 in
theorem E_r_highestOf {D : Nat} {w : Bool} {a0 : Int32} {f : Nat → Int32} {g : Nat → Nat → Int32} {n2 : Nat → Nat → Int64} {p : Nat → Nat → Int32} {pa : Nat → Nat → Nat → Int32} {s : Nat → Nat → Int32} {sa : Nat → Nat → Nat → Int32} {sw : Bool} {t : List jE} {z : Nat × Nat × Nat × (Nat → Int32)}  : K_r_highestOf D w a0 f g n2 p pa s sa sw t z = if a0 = 4 then (some (.inl (some (.int 12)), (jX f g n2 p pa s sa sw (.ref (jpl w)) t, z))) else (if a0 = 5 then (some (.inl (some (.int 99)), (jX f g n2 p pa s sa sw (.ref (jpl w)) t, z))) else (if a0 = 6 then (some (.inl (some (.int 10)), (jX f g n2 p pa s sa sw (.ref (jpl w)) t, z))) else (some (.inl (some (.int 99999)), (jX f g n2 p pa s sa sw (.ref (jpl w)) t, z))))) := by
  cases w
  · refine (jev_blk 2 (pc' := if a0 = 4 then 2 else if a0 = 5 then 4 else if a0 = 6 then 6 else 8) (L' := ([some (.int a0)], [])) (S' := []) (h' := (jX f g n2 p pa s sa sw (.ref (jpl false)) t, z)) rfl).trans ?_
    refine jev_ite.trans (jite_congr (fun _ => ?_) (fun _ => ?_))
    · refine (jev_blk 1 (pc' := 3) (L' := ([some (.int a0)], [])) (S' := [.int 12]) (h' := (jX f g n2 p pa s sa sw (.ref (jpl false)) t, z)) rfl).trans ?_
      exact jev_fin rfl
    · refine jev_ite.trans (jite_congr (fun _ => ?_) (fun _ => ?_))
      · refine (jev_blk 1 (pc' := 5) (L' := ([some (.int a0)], [])) (S' := [.int 99]) (h' := (jX f g n2 p pa s sa sw (.ref (jpl false)) t, z)) rfl).trans ?_
        exact jev_fin rfl
      · refine jev_ite.trans (jite_congr (fun _ => ?_) (fun _ => ?_))
        · refine (jev_blk 1 (pc' := 7) (L' := ([some (.int a0)], [])) (S' := [.int 10]) (h' := (jX f g n2 p pa s sa sw (.ref (jpl false)) t, z)) rfl).trans ?_
          exact jev_fin rfl
        · refine (jev_blk 1 (pc' := 9) (L' := ([some (.int a0)], [])) (S' := [.int 99999]) (h' := (jX f g n2 p pa s sa sw (.ref (jpl false)) t, z)) rfl).trans ?_
          exact jev_fin rfl
  · refine (jev_blk 2 (pc' := if a0 = 4 then 2 else if a0 = 5 then 4 else if a0 = 6 then 6 else 8) (L' := ([some (.int a0)], [])) (S' := []) (h' := (jX f g n2 p pa s sa sw (.ref (jpl true)) t, z)) rfl).trans ?_
    refine jev_ite.trans (jite_congr (fun _ => ?_) (fun _ => ?_))
    · refine (jev_blk 1 (pc' := 3) (L' := ([some (.int a0)], [])) (S' := [.int 12]) (h' := (jX f g n2 p pa s sa sw (.ref (jpl true)) t, z)) rfl).trans ?_
      exact jev_fin rfl
    · refine jev_ite.trans (jite_congr (fun _ => ?_) (fun _ => ?_))
      · refine (jev_blk 1 (pc' := 5) (L' := ([some (.int a0)], [])) (S' := [.int 99]) (h' := (jX f g n2 p pa s sa sw (.ref (jpl true)) t, z)) rfl).trans ?_
        exact jev_fin rfl
      · refine jev_ite.trans (jite_congr (fun _ => ?_) (fun _ => ?_))
        · refine (jev_blk 1 (pc' := 7) (L' := ([some (.int a0)], [])) (S' := [.int 10]) (h' := (jX f g n2 p pa s sa sw (.ref (jpl true)) t, z)) rfl).trans ?_
          exact jev_fin rfl
        · refine (jev_blk 1 (pc' := 9) (L' := ([some (.int a0)], [])) (S' := [.int 99999]) (h' := (jX f g n2 p pa s sa sw (.ref (jpl true)) t, z)) rfl).trans ?_
          exact jev_fin rfl
set_option maxRecDepth 20000 in
theorem E_r_readLaw {D : Nat} {w : Bool}  {f : Nat → Int32} {g : Nat → Nat → Int32} {n2 : Nat → Nat → Int64} {p : Nat → Nat → Int32} {pa : Nat → Nat → Nat → Int32} {s : Nat → Nat → Int32} {sa : Nat → Nat → Nat → Int32} {sw : Bool} {t : List jE} {z : Nat × Nat × Nat × (Nat → Int32)}  : K_r_readLaw D w f g n2 p pa s sa sw t z = jbO (K_k_step D f g n2 p pa s sa sw (.ref (jpl w)) t z) (jk D 63 3 ([some (.ref 1), none], []) []) := by
  cases w
  · refine (jev_blk 2 (pc' := 2) (L' := ([some (.ref 1), none], [])) (S' := [.ref 2]) (h' := (jX f g n2 p pa s sa sw (.ref (jpl false)) t, z)) rfl).trans ?_
    exact jev_callb (nx := 3) (rest := []) rfl
  · refine (jev_blk 2 (pc' := 2) (L' := ([some (.ref 1), none], [])) (S' := [.ref 2]) (h' := (jX f g n2 p pa s sa sw (.ref (jpl true)) t, z)) rfl).trans ?_
    exact jev_callb (nx := 3) (rest := []) rfl
set_option maxRecDepth 20000 in
theorem E_r_readLaw_3 {D : Nat} {w : Bool} {d1 : Option Value} {f : Nat → Int32} {g : Nat → Nat → Int32} {n2 : Nat → Nat → Int64} {p : Nat → Nat → Int32} {pa : Nat → Nat → Nat → Int32} {s : Nat → Nat → Int32} {sa : Nat → Nat → Nat → Int32} {sw : Bool} {t : List jE} {z : Nat × Nat × Nat × (Nat → Int32)}  : jev D 63 3 ([some (.ref 1), d1], []) [] (jX f g n2 p pa s sa sw (.ref (jpl w)) t, z) = if (f 11) = 4 then (if (f 12) < 9 then (K_r_readLaw_18 D w (some (.int (f 12))) f g n2 p pa s sa sw t z) else (if (f 12) < 12 then (jbO (K_r_isFirst D w (f 12) f g n2 p pa s sa sw t z) (jk D 63 25 ([some (.ref 1), some (.int (f 12))], []) [])) else (K_r_readLaw_18 D w (some (.int (f 12))) f g n2 p pa s sa sw t z))) else (K_r_readLaw_18 D w (some (.int (f 12))) f g n2 p pa s sa sw t z) := by
  cases w
  · refine (jev_blk 9 (pc' := if (f 11) = 4 then 12 else 18) (L' := ([some (.ref 1), some (.int (f 12))], [])) (S' := []) (h' := (jX f g n2 p pa s sa sw (.ref (jpl false)) t, z)) rfl).trans (jev_ite.trans (jite_congr (fun _ => ?_) (fun _ => ?_)))
    · refine (jev_blk 3 (pc' := if (f 12) < 9 then 18 else 15) (L' := ([some (.ref 1), some (.int (f 12))], [])) (S' := []) (h' := (jX f g n2 p pa s sa sw (.ref (jpl false)) t, z)) rfl).trans (jev_ite.trans (jite_congr (fun _ => ?_) (fun _ => ?_)))
      · rfl
      · refine (jev_blk 3 (pc' := if (f 12) < 12 then 22 else 18) (L' := ([some (.ref 1), some (.int (f 12))], [])) (S' := []) (h' := (jX f g n2 p pa s sa sw (.ref (jpl false)) t, z)) rfl).trans (jev_ite.trans (jite_congr (fun _ => ?_) (fun _ => ?_)))
        · refine (jev_blk 2 (pc' := 24) (L' := ([some (.ref 1), some (.int (f 12))], [])) (S' := [.int (f 12), .ref 1]) (h' := (jX f g n2 p pa s sa sw (.ref (jpl false)) t, z)) rfl).trans ?_
          exact jev_callb (nx := 25) (rest := []) rfl
        · rfl
    · rfl
  · refine (jev_blk 9 (pc' := if (f 11) = 4 then 12 else 18) (L' := ([some (.ref 1), some (.int (f 12))], [])) (S' := []) (h' := (jX f g n2 p pa s sa sw (.ref (jpl true)) t, z)) rfl).trans (jev_ite.trans (jite_congr (fun _ => ?_) (fun _ => ?_)))
    · refine (jev_blk 3 (pc' := if (f 12) < 9 then 18 else 15) (L' := ([some (.ref 1), some (.int (f 12))], [])) (S' := []) (h' := (jX f g n2 p pa s sa sw (.ref (jpl true)) t, z)) rfl).trans (jev_ite.trans (jite_congr (fun _ => ?_) (fun _ => ?_)))
      · rfl
      · refine (jev_blk 3 (pc' := if (f 12) < 12 then 22 else 18) (L' := ([some (.ref 1), some (.int (f 12))], [])) (S' := []) (h' := (jX f g n2 p pa s sa sw (.ref (jpl true)) t, z)) rfl).trans (jev_ite.trans (jite_congr (fun _ => ?_) (fun _ => ?_)))
        · refine (jev_blk 2 (pc' := 24) (L' := ([some (.ref 1), some (.int (f 12))], [])) (S' := [.int (f 12), .ref 1]) (h' := (jX f g n2 p pa s sa sw (.ref (jpl true)) t, z)) rfl).trans ?_
          exact jev_callb (nx := 25) (rest := []) rfl
        · rfl
    · rfl
set_option maxRecDepth 20000 in
theorem E_r_readLaw_18 {D : Nat} {w : Bool} {d1 : Option Value} {f : Nat → Int32} {g : Nat → Nat → Int32} {n2 : Nat → Nat → Int64} {p : Nat → Nat → Int32} {pa : Nat → Nat → Nat → Int32} {s : Nat → Nat → Int32} {sa : Nat → Nat → Nat → Int32} {sw : Bool} {t : List jE} {z : Nat × Nat × Nat × (Nat → Int32)}  : K_r_readLaw_18 D w d1 f g n2 p pa s sa sw t z = jbO (K_r_fail D w 1 f g n2 p pa s sa sw t z) (jk D 63 21 ([some (.ref 1), d1], []) []) := by
  cases w
  · refine (jev_blk 2 (pc' := 20) (L' := ([some (.ref 1), d1], [])) (S' := [.int 1, .ref 1]) (h' := (jX f g n2 p pa s sa sw (.ref (jpl false)) t, z)) rfl).trans ?_
    exact jev_callb (nx := 21) (rest := []) rfl
  · refine (jev_blk 2 (pc' := 20) (L' := ([some (.ref 1), d1], [])) (S' := [.int 1, .ref 1]) (h' := (jX f g n2 p pa s sa sw (.ref (jpl true)) t, z)) rfl).trans ?_
    exact jev_callb (nx := 21) (rest := []) rfl
set_option maxRecDepth 20000 in
theorem E_r_readLaw_25 {D : Nat} {w : Bool} {x1 : Int32} {u0 : Int32} {f : Nat → Int32} {g : Nat → Nat → Int32} {n2 : Nat → Nat → Int64} {p : Nat → Nat → Int32} {pa : Nat → Nat → Nat → Int32} {s : Nat → Nat → Int32} {sa : Nat → Nat → Nat → Int32} {sw : Bool} {t : List jE} {z : Nat × Nat × Nat × (Nat → Int32)}  : jev D 63 25 ([some (.ref 1), some (.int x1)], []) [.int u0] (jX f g n2 p pa s sa sw (.ref (jpl w)) t, z) = if u0 = 0 then (some (.inl (some (.int 0)), (jX f g n2 p pa s sa sw (.ref (jpl w)) t, z))) else (jbO (K_k_step D (jup f 6 ((x1 - 9))) g n2 p pa s sa sw (.ref (jpl w)) t z) (jk D 63 36 ([some (.ref 1), some (.int x1)], []) [])) := by
  cases w
  · refine (jev_blk 1 (pc' := if u0 = 0 then 26 else 28) (L' := ([some (.ref 1), some (.int x1)], [])) (S' := []) (h' := (jX f g n2 p pa s sa sw (.ref (jpl false)) t, z)) rfl).trans (jev_ite.trans (jite_congr (fun _ => ?_) (fun _ => ?_)))
    · refine (jev_blk 1 (pc' := 27) (L' := ([some (.ref 1), some (.int x1)], [])) (S' := [.int 0]) (h' := (jX f g n2 p pa s sa sw (.ref (jpl false)) t, z)) rfl).trans ?_
      exact jev_fin rfl
    · refine (jev_blk 7 (pc' := 35) (L' := ([some (.ref 1), some (.int x1)], [])) (S' := [.ref 2]) (h' := (jX (jup f 6 ((x1 - 9))) g n2 p pa s sa sw (.ref (jpl false)) t, z)) rfl).trans ?_
      exact jev_callb (nx := 36) (rest := []) rfl
  · refine (jev_blk 1 (pc' := if u0 = 0 then 26 else 28) (L' := ([some (.ref 1), some (.int x1)], [])) (S' := []) (h' := (jX f g n2 p pa s sa sw (.ref (jpl true)) t, z)) rfl).trans (jev_ite.trans (jite_congr (fun _ => ?_) (fun _ => ?_)))
    · refine (jev_blk 1 (pc' := 27) (L' := ([some (.ref 1), some (.int x1)], [])) (S' := [.int 0]) (h' := (jX f g n2 p pa s sa sw (.ref (jpl true)) t, z)) rfl).trans ?_
      exact jev_fin rfl
    · refine (jev_blk 7 (pc' := 35) (L' := ([some (.ref 1), some (.int x1)], [])) (S' := [.ref 2]) (h' := (jX (jup f 6 ((x1 - 9))) g n2 p pa s sa sw (.ref (jpl true)) t, z)) rfl).trans ?_
      exact jev_callb (nx := 36) (rest := []) rfl
set_option maxRecDepth 20000 in
theorem E_r_readLaw_21 {D : Nat} {w : Bool} {d1 : Option Value} {u0 : Int32} {f : Nat → Int32} {g : Nat → Nat → Int32} {n2 : Nat → Nat → Int64} {p : Nat → Nat → Int32} {pa : Nat → Nat → Nat → Int32} {s : Nat → Nat → Int32} {sa : Nat → Nat → Nat → Int32} {sw : Bool} {t : List jE} {z : Nat × Nat × Nat × (Nat → Int32)}  : jev D 63 21 ([some (.ref 1), d1], []) [.int u0] (jX f g n2 p pa s sa sw (.ref (jpl w)) t, z) = if u0 = 0 ∨ u0 = 1 then some (.inl (some (.int u0)), (jX f g n2 p pa s sa sw (.ref (jpl w)) t, z)) else none := by
  cases w
  · exact jev_fing rfl
  · exact jev_fing rfl
set_option maxRecDepth 20000 in
theorem E_r_readLaw_36 {D : Nat} {w : Bool} {d1 : Option Value} {f : Nat → Int32} {g : Nat → Nat → Int32} {n2 : Nat → Nat → Int64} {p : Nat → Nat → Int32} {pa : Nat → Nat → Nat → Int32} {s : Nat → Nat → Int32} {sa : Nat → Nat → Nat → Int32} {sw : Bool} {t : List jE} {z : Nat × Nat × Nat × (Nat → Int32)}  : jev D 63 36 ([some (.ref 1), d1], []) [] (jX f g n2 p pa s sa sw (.ref (jpl w)) t, z) = jbO (K_r_readEither D w 0 f g n2 p pa s sa sw t z) (jk D 63 39 ([some (.ref 1), d1], []) []) := by
  cases w
  · refine (jev_blk 2 (pc' := 38) (L' := ([some (.ref 1), d1], [])) (S' := [.int 0, .ref 1]) (h' := (jX f g n2 p pa s sa sw (.ref (jpl false)) t, z)) rfl).trans ?_
    exact jev_callb (nx := 39) (rest := []) rfl
  · refine (jev_blk 2 (pc' := 38) (L' := ([some (.ref 1), d1], [])) (S' := [.int 0, .ref 1]) (h' := (jX f g n2 p pa s sa sw (.ref (jpl true)) t, z)) rfl).trans ?_
    exact jev_callb (nx := 39) (rest := []) rfl
set_option maxRecDepth 20000 in
theorem E_r_readLaw_39 {D : Nat} {w : Bool} {d1 : Option Value} {u0 : Int32} {f : Nat → Int32} {g : Nat → Nat → Int32} {n2 : Nat → Nat → Int64} {p : Nat → Nat → Int32} {pa : Nat → Nat → Nat → Int32} {s : Nat → Nat → Int32} {sa : Nat → Nat → Nat → Int32} {sw : Bool} {t : List jE} {z : Nat × Nat × Nat × (Nat → Int32)}  : jev D 63 39 ([some (.ref 1), d1], []) [.int u0] (jX f g n2 p pa s sa sw (.ref (jpl w)) t, z) = if u0 = 0 ∨ u0 = 1 then some (.inl (some (.int u0)), (jX f g n2 p pa s sa sw (.ref (jpl w)) t, z)) else none := by
  cases w
  · exact jev_fing rfl
  · exact jev_fing rfl
set_option maxRecDepth 20000 in
theorem E_r_takeKnot {D : Nat} {w : Bool}  {f : Nat → Int32} {g : Nat → Nat → Int32} {n2 : Nat → Nat → Int64} {p : Nat → Nat → Int32} {pa : Nat → Nat → Nat → Int32} {s : Nat → Nat → Int32} {sa : Nat → Nat → Nat → Int32} {sw : Bool} {t : List jE} {z : Nat × Nat × Nat × (Nat → Int32)}  : K_r_takeKnot D w f g n2 p pa s sa sw t z = if (p (jq w) 9) < 64 then (jbO (K_k_step D f g n2 (jup p (jq w) (jup (p (jq w)) 9 (((p (jq w) 9) + 1)))) pa s sa sw (.ref (jpl w)) t z) (jk D 64 19 ([some (.ref 1)], []) [])) else (jbO (K_r_fail D w 2 f g n2 p pa s sa sw t z) (jk D 64 8 ([some (.ref 1)], []) [])) := by
  cases w
  · refine (jev_blk 5 (pc' := if (p (jq false) 9) < 64 then 9 else 5) (L' := ([some (.ref 1)], [])) (S' := []) (h' := (jX f g n2 p pa s sa sw (.ref (jpl false)) t, z)) rfl).trans (jev_ite.trans (jite_congr (fun _ => ?_) (fun _ => ?_)))
    · refine (jev_blk 9 (pc' := 18) (L' := ([some (.ref 1)], [])) (S' := [.ref 2]) (h' := (jX f g n2 (jup p (jq false) (jup (p (jq false)) 9 (((p (jq false) 9) + 1)))) pa s sa sw (.ref (jpl false)) t, z)) rfl).trans ?_
      exact jev_callb (nx := 19) (rest := []) rfl
    · refine (jev_blk 2 (pc' := 7) (L' := ([some (.ref 1)], [])) (S' := [.int 2, .ref 1]) (h' := (jX f g n2 p pa s sa sw (.ref (jpl false)) t, z)) rfl).trans ?_
      exact jev_callb (nx := 8) (rest := []) rfl
  · refine (jev_blk 5 (pc' := if (p (jq true) 9) < 64 then 9 else 5) (L' := ([some (.ref 1)], [])) (S' := []) (h' := (jX f g n2 p pa s sa sw (.ref (jpl true)) t, z)) rfl).trans (jev_ite.trans (jite_congr (fun _ => ?_) (fun _ => ?_)))
    · refine (jev_blk 9 (pc' := 18) (L' := ([some (.ref 1)], [])) (S' := [.ref 2]) (h' := (jX f g n2 (jup p (jq true) (jup (p (jq true)) 9 (((p (jq true) 9) + 1)))) pa s sa sw (.ref (jpl true)) t, z)) rfl).trans ?_
      exact jev_callb (nx := 19) (rest := []) rfl
    · refine (jev_blk 2 (pc' := 7) (L' := ([some (.ref 1)], [])) (S' := [.int 2, .ref 1]) (h' := (jX f g n2 p pa s sa sw (.ref (jpl true)) t, z)) rfl).trans ?_
      exact jev_callb (nx := 8) (rest := []) rfl
set_option maxRecDepth 20000 in
theorem E_r_takeKnot_19 {D : Nat} {w : Bool}  {f : Nat → Int32} {g : Nat → Nat → Int32} {n2 : Nat → Nat → Int64} {p : Nat → Nat → Int32} {pa : Nat → Nat → Nat → Int32} {s : Nat → Nat → Int32} {sa : Nat → Nat → Nat → Int32} {sw : Bool} {t : List jE} {z : Nat × Nat × Nat × (Nat → Int32)}  : jev D 64 19 ([some (.ref 1)], []) [] (jX f g n2 p pa s sa sw (.ref (jpl w)) t, z) = some (.inl (some (.int 1)), (jX f g n2 p pa s sa sw (.ref (jpl w)) t, z)) := by
  cases w
  · refine (jev_blk 1 (pc' := 20) (L' := ([some (.ref 1)], [])) (S' := [.int 1]) (h' := (jX f g n2 p pa s sa sw (.ref (jpl false)) t, z)) rfl).trans ?_
    exact jev_fin rfl
  · refine (jev_blk 1 (pc' := 20) (L' := ([some (.ref 1)], [])) (S' := [.int 1]) (h' := (jX f g n2 p pa s sa sw (.ref (jpl true)) t, z)) rfl).trans ?_
    exact jev_fin rfl
set_option maxRecDepth 20000 in
theorem E_r_takeKnot_8 {D : Nat} {w : Bool} {u0 : Int32} {f : Nat → Int32} {g : Nat → Nat → Int32} {n2 : Nat → Nat → Int64} {p : Nat → Nat → Int32} {pa : Nat → Nat → Nat → Int32} {s : Nat → Nat → Int32} {sa : Nat → Nat → Nat → Int32} {sw : Bool} {t : List jE} {z : Nat × Nat × Nat × (Nat → Int32)}  : jev D 64 8 ([some (.ref 1)], []) [.int u0] (jX f g n2 p pa s sa sw (.ref (jpl w)) t, z) = if u0 = 0 ∨ u0 = 1 then some (.inl (some (.int u0)), (jX f g n2 p pa s sa sw (.ref (jpl w)) t, z)) else none := by
  cases w
  · exact jev_fing rfl
  · exact jev_fing rfl
set_option maxRecDepth 20000 in
theorem E_r_emit_r0 {D : Nat} {w : Bool} {a0 : Int32} {a1 : Int32} {f : Nat → Int32} {g : Nat → Nat → Int32} {n2 : Nat → Nat → Int64} {p : Nat → Nat → Int32} {pa : Nat → Nat → Nat → Int32} {s : Nat → Nat → Int32} {sa : Nat → Nat → Nat → Int32} {sw : Bool} {t : List jE} {z : Nat × Nat × Nat × (Nat → Int32)}  : K_r_emit_r0 D w a0 a1 (jup f 6 (0)) g n2 p pa s sa sw t z = jbO (K_w_add D w 0 a0 a1 (jup f 6 (0)) g n2 p pa s sa sw (.ref (jpl w)) t z) (jk D 65 9 ([some (.ref 1), some (.int a0), some (.int a1)], []) []) := by
  cases w
  · refine (jev_blk 8 (pc' := 8) (L' := ([some (.ref 1), some (.int a0), some (.int a1)], [])) (S' := [.int a1, .int a0, .ref ((jpl false) + 10)]) (h' := (jX (jup f 6 (0)) g n2 p pa s sa sw (.ref (jpl false)) t, z)) rfl).trans ?_
    exact jev_callb (nx := 9) (rest := []) rfl
  · refine (jev_blk 8 (pc' := 8) (L' := ([some (.ref 1), some (.int a0), some (.int a1)], [])) (S' := [.int a1, .int a0, .ref ((jpl true) + 10)]) (h' := (jX (jup f 6 (0)) g n2 p pa s sa sw (.ref (jpl true)) t, z)) rfl).trans ?_
    exact jev_callb (nx := 9) (rest := []) rfl
set_option maxRecDepth 20000 in
theorem E_r_emit_r0_9 {D : Nat} {w : Bool} {d1 : Option Value} {d2 : Option Value} {f : Nat → Int32} {g : Nat → Nat → Int32} {n2 : Nat → Nat → Int64} {p : Nat → Nat → Int32} {pa : Nat → Nat → Nat → Int32} {s : Nat → Nat → Int32} {sa : Nat → Nat → Nat → Int32} {sw : Bool} {t : List jE} {z : Nat × Nat × Nat × (Nat → Int32)}  : jev D 65 9 ([some (.ref 1), d1, d2], []) [] (jX (jup f 6 (0)) g n2 p pa s sa sw (.ref (jpl w)) t, z) = some (.inl (some (.int 1)), (jX (jup f 6 (0)) g n2 p pa s sa sw (.ref (jpl w)) t, z)) := by
  cases w
  · refine (jev_blk 1 (pc' := 10) (L' := ([some (.ref 1), d1, d2], [])) (S' := [.int 1]) (h' := (jX (jup f 6 (0)) g n2 p pa s sa sw (.ref (jpl false)) t, z)) rfl).trans ?_
    exact jev_fin rfl
  · refine (jev_blk 1 (pc' := 10) (L' := ([some (.ref 1), d1, d2], [])) (S' := [.int 1]) (h' := (jX (jup f 6 (0)) g n2 p pa s sa sw (.ref (jpl true)) t, z)) rfl).trans ?_
    exact jev_fin rfl
set_option maxRecDepth 20000 in
theorem E_r_emit_r1 {D : Nat} {w : Bool} {a0 : Int32} {a1 : Int32} {f : Nat → Int32} {g : Nat → Nat → Int32} {n2 : Nat → Nat → Int64} {p : Nat → Nat → Int32} {pa : Nat → Nat → Nat → Int32} {s : Nat → Nat → Int32} {sa : Nat → Nat → Nat → Int32} {sw : Bool} {t : List jE} {z : Nat × Nat × Nat × (Nat → Int32)}  : K_r_emit_r1 D w a0 a1 (jup f 6 (1)) g n2 p pa s sa sw t z = jbO (K_w_add D w 1 a0 a1 (jup f 6 (1)) g n2 p pa s sa sw (.ref (jpl w)) t z) (jk D 65 9 ([some (.ref 1), some (.int a0), some (.int a1)], []) []) := by
  cases w
  · refine (jev_blk 8 (pc' := 8) (L' := ([some (.ref 1), some (.int a0), some (.int a1)], [])) (S' := [.int a1, .int a0, .ref ((jpl false) + 13)]) (h' := (jX (jup f 6 (1)) g n2 p pa s sa sw (.ref (jpl false)) t, z)) rfl).trans ?_
    exact jev_callb (nx := 9) (rest := []) rfl
  · refine (jev_blk 8 (pc' := 8) (L' := ([some (.ref 1), some (.int a0), some (.int a1)], [])) (S' := [.int a1, .int a0, .ref ((jpl true) + 13)]) (h' := (jX (jup f 6 (1)) g n2 p pa s sa sw (.ref (jpl true)) t, z)) rfl).trans ?_
    exact jev_callb (nx := 9) (rest := []) rfl
set_option maxRecDepth 20000 in
theorem E_r_emit_r1_9 {D : Nat} {w : Bool} {d1 : Option Value} {d2 : Option Value} {f : Nat → Int32} {g : Nat → Nat → Int32} {n2 : Nat → Nat → Int64} {p : Nat → Nat → Int32} {pa : Nat → Nat → Nat → Int32} {s : Nat → Nat → Int32} {sa : Nat → Nat → Nat → Int32} {sw : Bool} {t : List jE} {z : Nat × Nat × Nat × (Nat → Int32)}  : jev D 65 9 ([some (.ref 1), d1, d2], []) [] (jX (jup f 6 (1)) g n2 p pa s sa sw (.ref (jpl w)) t, z) = some (.inl (some (.int 1)), (jX (jup f 6 (1)) g n2 p pa s sa sw (.ref (jpl w)) t, z)) := by
  cases w
  · refine (jev_blk 1 (pc' := 10) (L' := ([some (.ref 1), d1, d2], [])) (S' := [.int 1]) (h' := (jX (jup f 6 (1)) g n2 p pa s sa sw (.ref (jpl false)) t, z)) rfl).trans ?_
    exact jev_fin rfl
  · refine (jev_blk 1 (pc' := 10) (L' := ([some (.ref 1), d1, d2], [])) (S' := [.int 1]) (h' := (jX (jup f 6 (1)) g n2 p pa s sa sw (.ref (jpl true)) t, z)) rfl).trans ?_
    exact jev_fin rfl
set_option maxRecDepth 20000 in
theorem E_r_emit_r2 {D : Nat} {w : Bool} {a0 : Int32} {a1 : Int32} {f : Nat → Int32} {g : Nat → Nat → Int32} {n2 : Nat → Nat → Int64} {p : Nat → Nat → Int32} {pa : Nat → Nat → Nat → Int32} {s : Nat → Nat → Int32} {sa : Nat → Nat → Nat → Int32} {sw : Bool} {t : List jE} {z : Nat × Nat × Nat × (Nat → Int32)}  : K_r_emit_r2 D w a0 a1 (jup f 6 (2)) g n2 p pa s sa sw t z = jbO (K_w_add D w 2 a0 a1 (jup f 6 (2)) g n2 p pa s sa sw (.ref (jpl w)) t z) (jk D 65 9 ([some (.ref 1), some (.int a0), some (.int a1)], []) []) := by
  cases w
  · refine (jev_blk 8 (pc' := 8) (L' := ([some (.ref 1), some (.int a0), some (.int a1)], [])) (S' := [.int a1, .int a0, .ref ((jpl false) + 16)]) (h' := (jX (jup f 6 (2)) g n2 p pa s sa sw (.ref (jpl false)) t, z)) rfl).trans ?_
    exact jev_callb (nx := 9) (rest := []) rfl
  · refine (jev_blk 8 (pc' := 8) (L' := ([some (.ref 1), some (.int a0), some (.int a1)], [])) (S' := [.int a1, .int a0, .ref ((jpl true) + 16)]) (h' := (jX (jup f 6 (2)) g n2 p pa s sa sw (.ref (jpl true)) t, z)) rfl).trans ?_
    exact jev_callb (nx := 9) (rest := []) rfl
set_option maxRecDepth 20000 in
theorem E_r_emit_r2_9 {D : Nat} {w : Bool} {d1 : Option Value} {d2 : Option Value} {f : Nat → Int32} {g : Nat → Nat → Int32} {n2 : Nat → Nat → Int64} {p : Nat → Nat → Int32} {pa : Nat → Nat → Nat → Int32} {s : Nat → Nat → Int32} {sa : Nat → Nat → Nat → Int32} {sw : Bool} {t : List jE} {z : Nat × Nat × Nat × (Nat → Int32)}  : jev D 65 9 ([some (.ref 1), d1, d2], []) [] (jX (jup f 6 (2)) g n2 p pa s sa sw (.ref (jpl w)) t, z) = some (.inl (some (.int 1)), (jX (jup f 6 (2)) g n2 p pa s sa sw (.ref (jpl w)) t, z)) := by
  cases w
  · refine (jev_blk 1 (pc' := 10) (L' := ([some (.ref 1), d1, d2], [])) (S' := [.int 1]) (h' := (jX (jup f 6 (2)) g n2 p pa s sa sw (.ref (jpl false)) t, z)) rfl).trans ?_
    exact jev_fin rfl
  · refine (jev_blk 1 (pc' := 10) (L' := ([some (.ref 1), d1, d2], [])) (S' := [.int 1]) (h' := (jX (jup f 6 (2)) g n2 p pa s sa sw (.ref (jpl true)) t, z)) rfl).trans ?_
    exact jev_fin rfl
-- left out: r_emit at 0: symbolic law index
set_option maxRecDepth 20000 in
theorem E_r_readEither {D : Nat} {w : Bool} {a0 : Int32} {f : Nat → Int32} {g : Nat → Nat → Int32} {n2 : Nat → Nat → Int64} {p : Nat → Nat → Int32} {pa : Nat → Nat → Nat → Int32} {s : Nat → Nat → Int32} {sa : Nat → Nat → Nat → Int32} {sw : Bool} {t : List jE} {z : Nat × Nat × Nat × (Nat → Int32)}  : K_r_readEither (D + 1) w a0 f g n2 p pa s sa sw t z = jbO (K_r_readAll D w a0 f g n2 p pa s sa sw t z) (jk (D + 1) 66 3 ([some (.ref 1), some (.int a0), none], []) []) := by
  cases w
  · refine (jev_blk 2 (pc' := 2) (L' := ([some (.ref 1), some (.int a0), none], [])) (S' := [.int a0, .ref 1]) (h' := (jX f g n2 p pa s sa sw (.ref (jpl false)) t, z)) rfl).trans ?_
    exact jev_callb (nx := 3) (rest := []) rfl
  · refine (jev_blk 2 (pc' := 2) (L' := ([some (.ref 1), some (.int a0), none], [])) (S' := [.int a0, .ref 1]) (h' := (jX f g n2 p pa s sa sw (.ref (jpl true)) t, z)) rfl).trans ?_
    exact jev_callb (nx := 3) (rest := []) rfl
set_option maxRecDepth 20000 in
theorem E_r_readEither_3 {D : Nat} {w : Bool} {x1 : Int32} {d2 : Option Value} {u0 : Int32} {f : Nat → Int32} {g : Nat → Nat → Int32} {n2 : Nat → Nat → Int64} {p : Nat → Nat → Int32} {pa : Nat → Nat → Nat → Int32} {s : Nat → Nat → Int32} {sa : Nat → Nat → Nat → Int32} {sw : Bool} {t : List jE} {z : Nat × Nat × Nat × (Nat → Int32)}  : jev D 66 3 ([some (.ref 1), some (.int x1), d2], []) [.int u0] (jX f g n2 p pa s sa sw (.ref (jpl w)) t, z) = if u0 = 0 then (some (.inl (some (.int 0)), (jX f g n2 p pa s sa sw (.ref (jpl w)) t, z))) else (K_r_readEither_8 D w x1 0 f g n2 p pa s sa sw t z) := by
  cases w
  · refine (jev_blk 1 (pc' := if u0 = 0 then 4 else 6) (L' := ([some (.ref 1), some (.int x1), d2], [])) (S' := []) (h' := (jX f g n2 p pa s sa sw (.ref (jpl false)) t, z)) rfl).trans (jev_ite.trans (jite_congr (fun _ => ?_) (fun _ => ?_)))
    · refine (jev_blk 1 (pc' := 5) (L' := ([some (.ref 1), some (.int x1), d2], [])) (S' := [.int 0]) (h' := (jX f g n2 p pa s sa sw (.ref (jpl false)) t, z)) rfl).trans ?_
      exact jev_fin rfl
    · exact jev_blk 2 rfl
  · refine (jev_blk 1 (pc' := if u0 = 0 then 4 else 6) (L' := ([some (.ref 1), some (.int x1), d2], [])) (S' := []) (h' := (jX f g n2 p pa s sa sw (.ref (jpl true)) t, z)) rfl).trans (jev_ite.trans (jite_congr (fun _ => ?_) (fun _ => ?_)))
    · refine (jev_blk 1 (pc' := 5) (L' := ([some (.ref 1), some (.int x1), d2], [])) (S' := [.int 0]) (h' := (jX f g n2 p pa s sa sw (.ref (jpl true)) t, z)) rfl).trans ?_
      exact jev_fin rfl
    · exact jev_blk 2 rfl
set_option maxRecDepth 20000 in
theorem L_r_readEither_8 {D : Nat} {w : Bool} {x1 : Int32} {x2 : Int32} {f : Nat → Int32} {g : Nat → Nat → Int32} {n2 : Nat → Nat → Int64} {p : Nat → Nat → Int32} {pa : Nat → Nat → Nat → Int32} {s : Nat → Nat → Int32} {sa : Nat → Nat → Nat → Int32} {sw : Bool} {t : List jE} {z : Nat × Nat × Nat × (Nat → Int32)}  : K_r_readEither_8 D w x1 x2 f g n2 p pa s sa sw t z = if 64 < x2 then (some (.inl (some (.int 1)), (jX f g n2 p pa s sa sw (.ref (jpl w)) t, z))) else (jbO (K_k_isWord D 12 f g n2 p pa s sa sw (.ref (jpl w)) t z) (jk D 66 15 ([some (.ref 1), some (.int x1), some (.int x2)], []) [])) := by
  cases w
  · refine (jev_blk 3 (pc' := if 64 < x2 then 32 else 11) (L' := ([some (.ref 1), some (.int x1), some (.int x2)], [])) (S' := []) (h' := (jX f g n2 p pa s sa sw (.ref (jpl false)) t, z)) rfl).trans (jev_ite.trans (jite_congr (fun _ => ?_) (fun _ => ?_)))
    · refine (jev_blk 1 (pc' := 33) (L' := ([some (.ref 1), some (.int x1), some (.int x2)], [])) (S' := [.int 1]) (h' := (jX f g n2 p pa s sa sw (.ref (jpl false)) t, z)) rfl).trans ?_
      exact jev_fin rfl
    · refine (jev_blk 3 (pc' := 14) (L' := ([some (.ref 1), some (.int x1), some (.int x2)], [])) (S' := [.int 12, .ref 2]) (h' := (jX f g n2 p pa s sa sw (.ref (jpl false)) t, z)) rfl).trans ?_
      exact jev_callb (nx := 15) (rest := []) rfl
  · refine (jev_blk 3 (pc' := if 64 < x2 then 32 else 11) (L' := ([some (.ref 1), some (.int x1), some (.int x2)], [])) (S' := []) (h' := (jX f g n2 p pa s sa sw (.ref (jpl true)) t, z)) rfl).trans (jev_ite.trans (jite_congr (fun _ => ?_) (fun _ => ?_)))
    · refine (jev_blk 1 (pc' := 33) (L' := ([some (.ref 1), some (.int x1), some (.int x2)], [])) (S' := [.int 1]) (h' := (jX f g n2 p pa s sa sw (.ref (jpl true)) t, z)) rfl).trans ?_
      exact jev_fin rfl
    · refine (jev_blk 3 (pc' := 14) (L' := ([some (.ref 1), some (.int x1), some (.int x2)], [])) (S' := [.int 12, .ref 2]) (h' := (jX f g n2 p pa s sa sw (.ref (jpl true)) t, z)) rfl).trans ?_
      exact jev_callb (nx := 15) (rest := []) rfl
set_option maxRecDepth 20000 in
theorem E_r_readEither_15 {D : Nat} {w : Bool} {x1 : Int32} {x2 : Int32} {u0 : Int32} {f : Nat → Int32} {g : Nat → Nat → Int32} {n2 : Nat → Nat → Int64} {p : Nat → Nat → Int32} {pa : Nat → Nat → Nat → Int32} {s : Nat → Nat → Int32} {sa : Nat → Nat → Nat → Int32} {sw : Bool} {t : List jE} {z : Nat × Nat × Nat × (Nat → Int32)}  : jev D 66 15 ([some (.ref 1), some (.int x1), some (.int x2)], []) [.int u0] (jX f g n2 p pa s sa sw (.ref (jpl w)) t, z) = if u0 = 0 then (some (.inl (some (.int 1)), (jX f g n2 p pa s sa sw (.ref (jpl w)) t, z))) else (jbO (K_r_takeKnot D w f g n2 p pa s sa sw t z) (jk D 66 18 ([some (.ref 1), some (.int x1), some (.int x2)], []) [])) := by
  cases w
  · refine (jev_blk 1 (pc' := if u0 = 0 then 32 else 16) (L' := ([some (.ref 1), some (.int x1), some (.int x2)], [])) (S' := []) (h' := (jX f g n2 p pa s sa sw (.ref (jpl false)) t, z)) rfl).trans (jev_ite.trans (jite_congr (fun _ => ?_) (fun _ => ?_)))
    · refine (jev_blk 1 (pc' := 33) (L' := ([some (.ref 1), some (.int x1), some (.int x2)], [])) (S' := [.int 1]) (h' := (jX f g n2 p pa s sa sw (.ref (jpl false)) t, z)) rfl).trans ?_
      exact jev_fin rfl
    · refine (jev_blk 1 (pc' := 17) (L' := ([some (.ref 1), some (.int x1), some (.int x2)], [])) (S' := [.ref 1]) (h' := (jX f g n2 p pa s sa sw (.ref (jpl false)) t, z)) rfl).trans ?_
      exact jev_callb (nx := 18) (rest := []) rfl
  · refine (jev_blk 1 (pc' := if u0 = 0 then 32 else 16) (L' := ([some (.ref 1), some (.int x1), some (.int x2)], [])) (S' := []) (h' := (jX f g n2 p pa s sa sw (.ref (jpl true)) t, z)) rfl).trans (jev_ite.trans (jite_congr (fun _ => ?_) (fun _ => ?_)))
    · refine (jev_blk 1 (pc' := 33) (L' := ([some (.ref 1), some (.int x1), some (.int x2)], [])) (S' := [.int 1]) (h' := (jX f g n2 p pa s sa sw (.ref (jpl true)) t, z)) rfl).trans ?_
      exact jev_fin rfl
    · refine (jev_blk 1 (pc' := 17) (L' := ([some (.ref 1), some (.int x1), some (.int x2)], [])) (S' := [.ref 1]) (h' := (jX f g n2 p pa s sa sw (.ref (jpl true)) t, z)) rfl).trans ?_
      exact jev_callb (nx := 18) (rest := []) rfl
set_option maxRecDepth 20000 in
theorem E_r_readEither_18 {D : Nat} {w : Bool} {x1 : Int32} {x2 : Int32} {u0 : Int32} {f : Nat → Int32} {g : Nat → Nat → Int32} {n2 : Nat → Nat → Int64} {p : Nat → Nat → Int32} {pa : Nat → Nat → Nat → Int32} {s : Nat → Nat → Int32} {sa : Nat → Nat → Nat → Int32} {sw : Bool} {t : List jE} {z : Nat × Nat × Nat × (Nat → Int32)}  : jev (D + 1) 66 18 ([some (.ref 1), some (.int x1), some (.int x2)], []) [.int u0] (jX f g n2 p pa s sa sw (.ref (jpl w)) t, z) = if u0 = 0 then (some (.inl (some (.int 0)), (jX f g n2 p pa s sa sw (.ref (jpl w)) t, z))) else (jbO (K_r_readAll D w x1 f g n2 p pa s sa sw t z) (jk (D + 1) 66 22 ([some (.ref 1), some (.int x1), some (.int x2)], []) [])) := by
  cases w
  · refine (jev_blk 1 (pc' := if u0 = 0 then 28 else 19) (L' := ([some (.ref 1), some (.int x1), some (.int x2)], [])) (S' := []) (h' := (jX f g n2 p pa s sa sw (.ref (jpl false)) t, z)) rfl).trans (jev_ite.trans (jite_congr (fun _ => ?_) (fun _ => ?_)))
    · refine (jev_blk 1 (pc' := 29) (L' := ([some (.ref 1), some (.int x1), some (.int x2)], [])) (S' := [.int 0]) (h' := (jX f g n2 p pa s sa sw (.ref (jpl false)) t, z)) rfl).trans ?_
      exact jev_fin rfl
    · refine (jev_blk 2 (pc' := 21) (L' := ([some (.ref 1), some (.int x1), some (.int x2)], [])) (S' := [.int x1, .ref 1]) (h' := (jX f g n2 p pa s sa sw (.ref (jpl false)) t, z)) rfl).trans ?_
      exact jev_callb (nx := 22) (rest := []) rfl
  · refine (jev_blk 1 (pc' := if u0 = 0 then 28 else 19) (L' := ([some (.ref 1), some (.int x1), some (.int x2)], [])) (S' := []) (h' := (jX f g n2 p pa s sa sw (.ref (jpl true)) t, z)) rfl).trans (jev_ite.trans (jite_congr (fun _ => ?_) (fun _ => ?_)))
    · refine (jev_blk 1 (pc' := 29) (L' := ([some (.ref 1), some (.int x1), some (.int x2)], [])) (S' := [.int 0]) (h' := (jX f g n2 p pa s sa sw (.ref (jpl true)) t, z)) rfl).trans ?_
      exact jev_fin rfl
    · refine (jev_blk 2 (pc' := 21) (L' := ([some (.ref 1), some (.int x1), some (.int x2)], [])) (S' := [.int x1, .ref 1]) (h' := (jX f g n2 p pa s sa sw (.ref (jpl true)) t, z)) rfl).trans ?_
      exact jev_callb (nx := 22) (rest := []) rfl
set_option maxRecDepth 20000 in
theorem E_r_readEither_22 {D : Nat} {w : Bool} {x1 : Int32} {x2 : Int32} {u0 : Int32} {f : Nat → Int32} {g : Nat → Nat → Int32} {n2 : Nat → Nat → Int64} {p : Nat → Nat → Int32} {pa : Nat → Nat → Nat → Int32} {s : Nat → Nat → Int32} {sa : Nat → Nat → Nat → Int32} {sw : Bool} {t : List jE} {z : Nat × Nat × Nat × (Nat → Int32)}  : jev D 66 22 ([some (.ref 1), some (.int x1), some (.int x2)], []) [.int u0] (jX f g n2 p pa s sa sw (.ref (jpl w)) t, z) = if u0 = 0 then (some (.inl (some (.int 0)), (jX f g n2 p pa s sa sw (.ref (jpl w)) t, z))) else (jbO (K_r_emit D w 3 0 f g n2 p pa s sa sw t z) (jk D 66 27 ([some (.ref 1), some (.int x1), some (.int x2)], []) [])) := by
  cases w
  · refine (jev_blk 1 (pc' := if u0 = 0 then 28 else 23) (L' := ([some (.ref 1), some (.int x1), some (.int x2)], [])) (S' := []) (h' := (jX f g n2 p pa s sa sw (.ref (jpl false)) t, z)) rfl).trans (jev_ite.trans (jite_congr (fun _ => ?_) (fun _ => ?_)))
    · refine (jev_blk 1 (pc' := 29) (L' := ([some (.ref 1), some (.int x1), some (.int x2)], [])) (S' := [.int 0]) (h' := (jX f g n2 p pa s sa sw (.ref (jpl false)) t, z)) rfl).trans ?_
      exact jev_fin rfl
    · refine (jev_blk 3 (pc' := 26) (L' := ([some (.ref 1), some (.int x1), some (.int x2)], [])) (S' := [.int 0, .int 3, .ref 1]) (h' := (jX f g n2 p pa s sa sw (.ref (jpl false)) t, z)) rfl).trans ?_
      exact jev_callb (nx := 27) (rest := []) rfl
  · refine (jev_blk 1 (pc' := if u0 = 0 then 28 else 23) (L' := ([some (.ref 1), some (.int x1), some (.int x2)], [])) (S' := []) (h' := (jX f g n2 p pa s sa sw (.ref (jpl true)) t, z)) rfl).trans (jev_ite.trans (jite_congr (fun _ => ?_) (fun _ => ?_)))
    · refine (jev_blk 1 (pc' := 29) (L' := ([some (.ref 1), some (.int x1), some (.int x2)], [])) (S' := [.int 0]) (h' := (jX f g n2 p pa s sa sw (.ref (jpl true)) t, z)) rfl).trans ?_
      exact jev_fin rfl
    · refine (jev_blk 3 (pc' := 26) (L' := ([some (.ref 1), some (.int x1), some (.int x2)], [])) (S' := [.int 0, .int 3, .ref 1]) (h' := (jX f g n2 p pa s sa sw (.ref (jpl true)) t, z)) rfl).trans ?_
      exact jev_callb (nx := 27) (rest := []) rfl
set_option maxRecDepth 20000 in
theorem E_r_readEither_27 {D : Nat} {w : Bool} {x1 : Int32} {x2 : Int32} {u0 : Int32} {f : Nat → Int32} {g : Nat → Nat → Int32} {n2 : Nat → Nat → Int64} {p : Nat → Nat → Int32} {pa : Nat → Nat → Nat → Int32} {s : Nat → Nat → Int32} {sa : Nat → Nat → Nat → Int32} {sw : Bool} {t : List jE} {z : Nat × Nat × Nat × (Nat → Int32)}  : jev D 66 27 ([some (.ref 1), some (.int x1), some (.int x2)], []) [.int u0] (jX f g n2 p pa s sa sw (.ref (jpl w)) t, z) = if u0 = 0 then (some (.inl (some (.int 0)), (jX f g n2 p pa s sa sw (.ref (jpl w)) t, z))) else (K_r_readEither_8 D w x1 (x2 + 1) f g n2 p pa s sa sw t z) := by
  cases w
  · refine (jev_blk 1 (pc' := if u0 = 0 then 28 else 30) (L' := ([some (.ref 1), some (.int x1), some (.int x2)], [])) (S' := []) (h' := (jX f g n2 p pa s sa sw (.ref (jpl false)) t, z)) rfl).trans (jev_ite.trans (jite_congr (fun _ => ?_) (fun _ => ?_)))
    · refine (jev_blk 1 (pc' := 29) (L' := ([some (.ref 1), some (.int x1), some (.int x2)], [])) (S' := [.int 0]) (h' := (jX f g n2 p pa s sa sw (.ref (jpl false)) t, z)) rfl).trans ?_
      exact jev_fin rfl
    · exact jev_blk 2 rfl
  · refine (jev_blk 1 (pc' := if u0 = 0 then 28 else 30) (L' := ([some (.ref 1), some (.int x1), some (.int x2)], [])) (S' := []) (h' := (jX f g n2 p pa s sa sw (.ref (jpl true)) t, z)) rfl).trans (jev_ite.trans (jite_congr (fun _ => ?_) (fun _ => ?_)))
    · refine (jev_blk 1 (pc' := 29) (L' := ([some (.ref 1), some (.int x1), some (.int x2)], [])) (S' := [.int 0]) (h' := (jX f g n2 p pa s sa sw (.ref (jpl true)) t, z)) rfl).trans ?_
      exact jev_fin rfl
    · exact jev_blk 2 rfl
set_option maxRecDepth 20000 in
theorem E_r_readAll {D : Nat} {w : Bool} {a0 : Int32} {f : Nat → Int32} {g : Nat → Nat → Int32} {n2 : Nat → Nat → Int64} {p : Nat → Nat → Int32} {pa : Nat → Nat → Nat → Int32} {s : Nat → Nat → Int32} {sa : Nat → Nat → Nat → Int32} {sw : Bool} {t : List jE} {z : Nat × Nat × Nat × (Nat → Int32)}  : K_r_readAll (D + 1) w a0 f g n2 p pa s sa sw t z = jbO (K_r_readTruth D w a0 f g n2 p pa s sa sw t z) (jk (D + 1) 67 3 ([some (.ref 1), some (.int a0), none], []) []) := by
  cases w
  · refine (jev_blk 2 (pc' := 2) (L' := ([some (.ref 1), some (.int a0), none], [])) (S' := [.int a0, .ref 1]) (h' := (jX f g n2 p pa s sa sw (.ref (jpl false)) t, z)) rfl).trans ?_
    exact jev_callb (nx := 3) (rest := []) rfl
  · refine (jev_blk 2 (pc' := 2) (L' := ([some (.ref 1), some (.int a0), none], [])) (S' := [.int a0, .ref 1]) (h' := (jX f g n2 p pa s sa sw (.ref (jpl true)) t, z)) rfl).trans ?_
    exact jev_callb (nx := 3) (rest := []) rfl
set_option maxRecDepth 20000 in
theorem E_r_readAll_3 {D : Nat} {w : Bool} {x1 : Int32} {d2 : Option Value} {u0 : Int32} {f : Nat → Int32} {g : Nat → Nat → Int32} {n2 : Nat → Nat → Int64} {p : Nat → Nat → Int32} {pa : Nat → Nat → Nat → Int32} {s : Nat → Nat → Int32} {sa : Nat → Nat → Nat → Int32} {sw : Bool} {t : List jE} {z : Nat × Nat × Nat × (Nat → Int32)}  : jev D 67 3 ([some (.ref 1), some (.int x1), d2], []) [.int u0] (jX f g n2 p pa s sa sw (.ref (jpl w)) t, z) = if u0 = 0 then (some (.inl (some (.int 0)), (jX f g n2 p pa s sa sw (.ref (jpl w)) t, z))) else (K_r_readAll_8 D w x1 0 f g n2 p pa s sa sw t z) := by
  cases w
  · refine (jev_blk 1 (pc' := if u0 = 0 then 4 else 6) (L' := ([some (.ref 1), some (.int x1), d2], [])) (S' := []) (h' := (jX f g n2 p pa s sa sw (.ref (jpl false)) t, z)) rfl).trans (jev_ite.trans (jite_congr (fun _ => ?_) (fun _ => ?_)))
    · refine (jev_blk 1 (pc' := 5) (L' := ([some (.ref 1), some (.int x1), d2], [])) (S' := [.int 0]) (h' := (jX f g n2 p pa s sa sw (.ref (jpl false)) t, z)) rfl).trans ?_
      exact jev_fin rfl
    · exact jev_blk 2 rfl
  · refine (jev_blk 1 (pc' := if u0 = 0 then 4 else 6) (L' := ([some (.ref 1), some (.int x1), d2], [])) (S' := []) (h' := (jX f g n2 p pa s sa sw (.ref (jpl true)) t, z)) rfl).trans (jev_ite.trans (jite_congr (fun _ => ?_) (fun _ => ?_)))
    · refine (jev_blk 1 (pc' := 5) (L' := ([some (.ref 1), some (.int x1), d2], [])) (S' := [.int 0]) (h' := (jX f g n2 p pa s sa sw (.ref (jpl true)) t, z)) rfl).trans ?_
      exact jev_fin rfl
    · exact jev_blk 2 rfl
set_option maxRecDepth 20000 in
theorem L_r_readAll_8 {D : Nat} {w : Bool} {x1 : Int32} {x2 : Int32} {f : Nat → Int32} {g : Nat → Nat → Int32} {n2 : Nat → Nat → Int64} {p : Nat → Nat → Int32} {pa : Nat → Nat → Nat → Int32} {s : Nat → Nat → Int32} {sa : Nat → Nat → Nat → Int32} {sw : Bool} {t : List jE} {z : Nat × Nat × Nat × (Nat → Int32)}  : K_r_readAll_8 D w x1 x2 f g n2 p pa s sa sw t z = if 64 < x2 then (some (.inl (some (.int 1)), (jX f g n2 p pa s sa sw (.ref (jpl w)) t, z))) else (jbO (K_k_isWord D 13 f g n2 p pa s sa sw (.ref (jpl w)) t z) (jk D 67 15 ([some (.ref 1), some (.int x1), some (.int x2)], []) [])) := by
  cases w
  · refine (jev_blk 3 (pc' := if 64 < x2 then 32 else 11) (L' := ([some (.ref 1), some (.int x1), some (.int x2)], [])) (S' := []) (h' := (jX f g n2 p pa s sa sw (.ref (jpl false)) t, z)) rfl).trans (jev_ite.trans (jite_congr (fun _ => ?_) (fun _ => ?_)))
    · refine (jev_blk 1 (pc' := 33) (L' := ([some (.ref 1), some (.int x1), some (.int x2)], [])) (S' := [.int 1]) (h' := (jX f g n2 p pa s sa sw (.ref (jpl false)) t, z)) rfl).trans ?_
      exact jev_fin rfl
    · refine (jev_blk 3 (pc' := 14) (L' := ([some (.ref 1), some (.int x1), some (.int x2)], [])) (S' := [.int 13, .ref 2]) (h' := (jX f g n2 p pa s sa sw (.ref (jpl false)) t, z)) rfl).trans ?_
      exact jev_callb (nx := 15) (rest := []) rfl
  · refine (jev_blk 3 (pc' := if 64 < x2 then 32 else 11) (L' := ([some (.ref 1), some (.int x1), some (.int x2)], [])) (S' := []) (h' := (jX f g n2 p pa s sa sw (.ref (jpl true)) t, z)) rfl).trans (jev_ite.trans (jite_congr (fun _ => ?_) (fun _ => ?_)))
    · refine (jev_blk 1 (pc' := 33) (L' := ([some (.ref 1), some (.int x1), some (.int x2)], [])) (S' := [.int 1]) (h' := (jX f g n2 p pa s sa sw (.ref (jpl true)) t, z)) rfl).trans ?_
      exact jev_fin rfl
    · refine (jev_blk 3 (pc' := 14) (L' := ([some (.ref 1), some (.int x1), some (.int x2)], [])) (S' := [.int 13, .ref 2]) (h' := (jX f g n2 p pa s sa sw (.ref (jpl true)) t, z)) rfl).trans ?_
      exact jev_callb (nx := 15) (rest := []) rfl
set_option maxRecDepth 20000 in
theorem E_r_readAll_15 {D : Nat} {w : Bool} {x1 : Int32} {x2 : Int32} {u0 : Int32} {f : Nat → Int32} {g : Nat → Nat → Int32} {n2 : Nat → Nat → Int64} {p : Nat → Nat → Int32} {pa : Nat → Nat → Nat → Int32} {s : Nat → Nat → Int32} {sa : Nat → Nat → Nat → Int32} {sw : Bool} {t : List jE} {z : Nat × Nat × Nat × (Nat → Int32)}  : jev D 67 15 ([some (.ref 1), some (.int x1), some (.int x2)], []) [.int u0] (jX f g n2 p pa s sa sw (.ref (jpl w)) t, z) = if u0 = 0 then (some (.inl (some (.int 1)), (jX f g n2 p pa s sa sw (.ref (jpl w)) t, z))) else (jbO (K_r_takeKnot D w f g n2 p pa s sa sw t z) (jk D 67 18 ([some (.ref 1), some (.int x1), some (.int x2)], []) [])) := by
  cases w
  · refine (jev_blk 1 (pc' := if u0 = 0 then 32 else 16) (L' := ([some (.ref 1), some (.int x1), some (.int x2)], [])) (S' := []) (h' := (jX f g n2 p pa s sa sw (.ref (jpl false)) t, z)) rfl).trans (jev_ite.trans (jite_congr (fun _ => ?_) (fun _ => ?_)))
    · refine (jev_blk 1 (pc' := 33) (L' := ([some (.ref 1), some (.int x1), some (.int x2)], [])) (S' := [.int 1]) (h' := (jX f g n2 p pa s sa sw (.ref (jpl false)) t, z)) rfl).trans ?_
      exact jev_fin rfl
    · refine (jev_blk 1 (pc' := 17) (L' := ([some (.ref 1), some (.int x1), some (.int x2)], [])) (S' := [.ref 1]) (h' := (jX f g n2 p pa s sa sw (.ref (jpl false)) t, z)) rfl).trans ?_
      exact jev_callb (nx := 18) (rest := []) rfl
  · refine (jev_blk 1 (pc' := if u0 = 0 then 32 else 16) (L' := ([some (.ref 1), some (.int x1), some (.int x2)], [])) (S' := []) (h' := (jX f g n2 p pa s sa sw (.ref (jpl true)) t, z)) rfl).trans (jev_ite.trans (jite_congr (fun _ => ?_) (fun _ => ?_)))
    · refine (jev_blk 1 (pc' := 33) (L' := ([some (.ref 1), some (.int x1), some (.int x2)], [])) (S' := [.int 1]) (h' := (jX f g n2 p pa s sa sw (.ref (jpl true)) t, z)) rfl).trans ?_
      exact jev_fin rfl
    · refine (jev_blk 1 (pc' := 17) (L' := ([some (.ref 1), some (.int x1), some (.int x2)], [])) (S' := [.ref 1]) (h' := (jX f g n2 p pa s sa sw (.ref (jpl true)) t, z)) rfl).trans ?_
      exact jev_callb (nx := 18) (rest := []) rfl
set_option maxRecDepth 20000 in
theorem E_r_readAll_18 {D : Nat} {w : Bool} {x1 : Int32} {x2 : Int32} {u0 : Int32} {f : Nat → Int32} {g : Nat → Nat → Int32} {n2 : Nat → Nat → Int64} {p : Nat → Nat → Int32} {pa : Nat → Nat → Nat → Int32} {s : Nat → Nat → Int32} {sa : Nat → Nat → Nat → Int32} {sw : Bool} {t : List jE} {z : Nat × Nat × Nat × (Nat → Int32)}  : jev (D + 1) 67 18 ([some (.ref 1), some (.int x1), some (.int x2)], []) [.int u0] (jX f g n2 p pa s sa sw (.ref (jpl w)) t, z) = if u0 = 0 then (some (.inl (some (.int 0)), (jX f g n2 p pa s sa sw (.ref (jpl w)) t, z))) else (jbO (K_r_readTruth D w x1 f g n2 p pa s sa sw t z) (jk (D + 1) 67 22 ([some (.ref 1), some (.int x1), some (.int x2)], []) [])) := by
  cases w
  · refine (jev_blk 1 (pc' := if u0 = 0 then 28 else 19) (L' := ([some (.ref 1), some (.int x1), some (.int x2)], [])) (S' := []) (h' := (jX f g n2 p pa s sa sw (.ref (jpl false)) t, z)) rfl).trans (jev_ite.trans (jite_congr (fun _ => ?_) (fun _ => ?_)))
    · refine (jev_blk 1 (pc' := 29) (L' := ([some (.ref 1), some (.int x1), some (.int x2)], [])) (S' := [.int 0]) (h' := (jX f g n2 p pa s sa sw (.ref (jpl false)) t, z)) rfl).trans ?_
      exact jev_fin rfl
    · refine (jev_blk 2 (pc' := 21) (L' := ([some (.ref 1), some (.int x1), some (.int x2)], [])) (S' := [.int x1, .ref 1]) (h' := (jX f g n2 p pa s sa sw (.ref (jpl false)) t, z)) rfl).trans ?_
      exact jev_callb (nx := 22) (rest := []) rfl
  · refine (jev_blk 1 (pc' := if u0 = 0 then 28 else 19) (L' := ([some (.ref 1), some (.int x1), some (.int x2)], [])) (S' := []) (h' := (jX f g n2 p pa s sa sw (.ref (jpl true)) t, z)) rfl).trans (jev_ite.trans (jite_congr (fun _ => ?_) (fun _ => ?_)))
    · refine (jev_blk 1 (pc' := 29) (L' := ([some (.ref 1), some (.int x1), some (.int x2)], [])) (S' := [.int 0]) (h' := (jX f g n2 p pa s sa sw (.ref (jpl true)) t, z)) rfl).trans ?_
      exact jev_fin rfl
    · refine (jev_blk 2 (pc' := 21) (L' := ([some (.ref 1), some (.int x1), some (.int x2)], [])) (S' := [.int x1, .ref 1]) (h' := (jX f g n2 p pa s sa sw (.ref (jpl true)) t, z)) rfl).trans ?_
      exact jev_callb (nx := 22) (rest := []) rfl
set_option maxRecDepth 20000 in
theorem E_r_readAll_22 {D : Nat} {w : Bool} {x1 : Int32} {x2 : Int32} {u0 : Int32} {f : Nat → Int32} {g : Nat → Nat → Int32} {n2 : Nat → Nat → Int64} {p : Nat → Nat → Int32} {pa : Nat → Nat → Nat → Int32} {s : Nat → Nat → Int32} {sa : Nat → Nat → Nat → Int32} {sw : Bool} {t : List jE} {z : Nat × Nat × Nat × (Nat → Int32)}  : jev D 67 22 ([some (.ref 1), some (.int x1), some (.int x2)], []) [.int u0] (jX f g n2 p pa s sa sw (.ref (jpl w)) t, z) = if u0 = 0 then (some (.inl (some (.int 0)), (jX f g n2 p pa s sa sw (.ref (jpl w)) t, z))) else (jbO (K_r_emit D w 4 0 f g n2 p pa s sa sw t z) (jk D 67 27 ([some (.ref 1), some (.int x1), some (.int x2)], []) [])) := by
  cases w
  · refine (jev_blk 1 (pc' := if u0 = 0 then 28 else 23) (L' := ([some (.ref 1), some (.int x1), some (.int x2)], [])) (S' := []) (h' := (jX f g n2 p pa s sa sw (.ref (jpl false)) t, z)) rfl).trans (jev_ite.trans (jite_congr (fun _ => ?_) (fun _ => ?_)))
    · refine (jev_blk 1 (pc' := 29) (L' := ([some (.ref 1), some (.int x1), some (.int x2)], [])) (S' := [.int 0]) (h' := (jX f g n2 p pa s sa sw (.ref (jpl false)) t, z)) rfl).trans ?_
      exact jev_fin rfl
    · refine (jev_blk 3 (pc' := 26) (L' := ([some (.ref 1), some (.int x1), some (.int x2)], [])) (S' := [.int 0, .int 4, .ref 1]) (h' := (jX f g n2 p pa s sa sw (.ref (jpl false)) t, z)) rfl).trans ?_
      exact jev_callb (nx := 27) (rest := []) rfl
  · refine (jev_blk 1 (pc' := if u0 = 0 then 28 else 23) (L' := ([some (.ref 1), some (.int x1), some (.int x2)], [])) (S' := []) (h' := (jX f g n2 p pa s sa sw (.ref (jpl true)) t, z)) rfl).trans (jev_ite.trans (jite_congr (fun _ => ?_) (fun _ => ?_)))
    · refine (jev_blk 1 (pc' := 29) (L' := ([some (.ref 1), some (.int x1), some (.int x2)], [])) (S' := [.int 0]) (h' := (jX f g n2 p pa s sa sw (.ref (jpl true)) t, z)) rfl).trans ?_
      exact jev_fin rfl
    · refine (jev_blk 3 (pc' := 26) (L' := ([some (.ref 1), some (.int x1), some (.int x2)], [])) (S' := [.int 0, .int 4, .ref 1]) (h' := (jX f g n2 p pa s sa sw (.ref (jpl true)) t, z)) rfl).trans ?_
      exact jev_callb (nx := 27) (rest := []) rfl
set_option maxRecDepth 20000 in
theorem E_r_readAll_27 {D : Nat} {w : Bool} {x1 : Int32} {x2 : Int32} {u0 : Int32} {f : Nat → Int32} {g : Nat → Nat → Int32} {n2 : Nat → Nat → Int64} {p : Nat → Nat → Int32} {pa : Nat → Nat → Nat → Int32} {s : Nat → Nat → Int32} {sa : Nat → Nat → Nat → Int32} {sw : Bool} {t : List jE} {z : Nat × Nat × Nat × (Nat → Int32)}  : jev D 67 27 ([some (.ref 1), some (.int x1), some (.int x2)], []) [.int u0] (jX f g n2 p pa s sa sw (.ref (jpl w)) t, z) = if u0 = 0 then (some (.inl (some (.int 0)), (jX f g n2 p pa s sa sw (.ref (jpl w)) t, z))) else (K_r_readAll_8 D w x1 (x2 + 1) f g n2 p pa s sa sw t z) := by
  cases w
  · refine (jev_blk 1 (pc' := if u0 = 0 then 28 else 30) (L' := ([some (.ref 1), some (.int x1), some (.int x2)], [])) (S' := []) (h' := (jX f g n2 p pa s sa sw (.ref (jpl false)) t, z)) rfl).trans (jev_ite.trans (jite_congr (fun _ => ?_) (fun _ => ?_)))
    · refine (jev_blk 1 (pc' := 29) (L' := ([some (.ref 1), some (.int x1), some (.int x2)], [])) (S' := [.int 0]) (h' := (jX f g n2 p pa s sa sw (.ref (jpl false)) t, z)) rfl).trans ?_
      exact jev_fin rfl
    · exact jev_blk 2 rfl
  · refine (jev_blk 1 (pc' := if u0 = 0 then 28 else 30) (L' := ([some (.ref 1), some (.int x1), some (.int x2)], [])) (S' := []) (h' := (jX f g n2 p pa s sa sw (.ref (jpl true)) t, z)) rfl).trans (jev_ite.trans (jite_congr (fun _ => ?_) (fun _ => ?_)))
    · refine (jev_blk 1 (pc' := 29) (L' := ([some (.ref 1), some (.int x1), some (.int x2)], [])) (S' := [.int 0]) (h' := (jX f g n2 p pa s sa sw (.ref (jpl true)) t, z)) rfl).trans ?_
      exact jev_fin rfl
    · exact jev_blk 2 rfl
set_option maxRecDepth 20000 in
theorem E_r_readTruth {D : Nat} {w : Bool} {a0 : Int32} {f : Nat → Int32} {g : Nat → Nat → Int32} {n2 : Nat → Nat → Int64} {p : Nat → Nat → Int32} {pa : Nat → Nat → Nat → Int32} {s : Nat → Nat → Int32} {sa : Nat → Nat → Nat → Int32} {sw : Bool} {t : List jE} {z : Nat × Nat × Nat × (Nat → Int32)}  : K_r_readTruth D w a0 f g n2 p pa s sa sw t z = K_r_readTruth_2 D w a0 0 none f g n2 p pa s sa sw t z := by
  cases w
  · exact jev_blk 2 rfl
  · exact jev_blk 2 rfl
set_option maxRecDepth 20000 in
theorem L_r_readTruth_2 {D : Nat} {w : Bool} {x1 : Int32} {x2 : Int32} {d3 : Option Value} {f : Nat → Int32} {g : Nat → Nat → Int32} {n2 : Nat → Nat → Int64} {p : Nat → Nat → Int32} {pa : Nat → Nat → Nat → Int32} {s : Nat → Nat → Int32} {sa : Nat → Nat → Nat → Int32} {sw : Bool} {t : List jE} {z : Nat × Nat × Nat × (Nat → Int32)}  : K_r_readTruth_2 D w x1 x2 d3 f g n2 p pa s sa sw t z = if 64 < x2 then (K_r_readTruth_17 D w x1 x2 d3 f g n2 p pa s sa sw t z) else (jbO (K_k_isWord D 14 f g n2 p pa s sa sw (.ref (jpl w)) t z) (jk D 68 9 ([some (.ref 1), some (.int x1), some (.int x2), d3], []) [])) := by
  cases w
  · refine (jev_blk 3 (pc' := if 64 < x2 then 17 else 5) (L' := ([some (.ref 1), some (.int x1), some (.int x2), d3], [])) (S' := []) (h' := (jX f g n2 p pa s sa sw (.ref (jpl false)) t, z)) rfl).trans (jev_ite.trans (jite_congr (fun _ => ?_) (fun _ => ?_)))
    · rfl
    · refine (jev_blk 3 (pc' := 8) (L' := ([some (.ref 1), some (.int x1), some (.int x2), d3], [])) (S' := [.int 14, .ref 2]) (h' := (jX f g n2 p pa s sa sw (.ref (jpl false)) t, z)) rfl).trans ?_
      exact jev_callb (nx := 9) (rest := []) rfl
  · refine (jev_blk 3 (pc' := if 64 < x2 then 17 else 5) (L' := ([some (.ref 1), some (.int x1), some (.int x2), d3], [])) (S' := []) (h' := (jX f g n2 p pa s sa sw (.ref (jpl true)) t, z)) rfl).trans (jev_ite.trans (jite_congr (fun _ => ?_) (fun _ => ?_)))
    · rfl
    · refine (jev_blk 3 (pc' := 8) (L' := ([some (.ref 1), some (.int x1), some (.int x2), d3], [])) (S' := [.int 14, .ref 2]) (h' := (jX f g n2 p pa s sa sw (.ref (jpl true)) t, z)) rfl).trans ?_
      exact jev_callb (nx := 9) (rest := []) rfl
set_option maxRecDepth 20000 in
theorem E_r_readTruth_17 {D : Nat} {w : Bool} {x1 : Int32} {x2 : Int32} {d3 : Option Value} {f : Nat → Int32} {g : Nat → Nat → Int32} {n2 : Nat → Nat → Int64} {p : Nat → Nat → Int32} {pa : Nat → Nat → Nat → Int32} {s : Nat → Nat → Int32} {sa : Nat → Nat → Nat → Int32} {sw : Bool} {t : List jE} {z : Nat × Nat × Nat × (Nat → Int32)}  : K_r_readTruth_17 (D + 1) w x1 x2 d3 f g n2 p pa s sa sw t z = jbO (K_r_readCompared D w x1 f g n2 p pa s sa sw t z) (jk (D + 1) 68 20 ([some (.ref 1), some (.int x1), some (.int x2), d3], []) []) := by
  cases w
  · refine (jev_blk 2 (pc' := 19) (L' := ([some (.ref 1), some (.int x1), some (.int x2), d3], [])) (S' := [.int x1, .ref 1]) (h' := (jX f g n2 p pa s sa sw (.ref (jpl false)) t, z)) rfl).trans ?_
    exact jev_callb (nx := 20) (rest := []) rfl
  · refine (jev_blk 2 (pc' := 19) (L' := ([some (.ref 1), some (.int x1), some (.int x2), d3], [])) (S' := [.int x1, .ref 1]) (h' := (jX f g n2 p pa s sa sw (.ref (jpl true)) t, z)) rfl).trans ?_
    exact jev_callb (nx := 20) (rest := []) rfl
set_option maxRecDepth 20000 in
theorem E_r_readTruth_9 {D : Nat} {w : Bool} {x1 : Int32} {x2 : Int32} {d3 : Option Value} {u0 : Int32} {f : Nat → Int32} {g : Nat → Nat → Int32} {n2 : Nat → Nat → Int64} {p : Nat → Nat → Int32} {pa : Nat → Nat → Nat → Int32} {s : Nat → Nat → Int32} {sa : Nat → Nat → Nat → Int32} {sw : Bool} {t : List jE} {z : Nat × Nat × Nat × (Nat → Int32)}  : jev D 68 9 ([some (.ref 1), some (.int x1), some (.int x2), d3], []) [.int u0] (jX f g n2 p pa s sa sw (.ref (jpl w)) t, z) = if u0 = 0 then (K_r_readTruth_17 D w x1 x2 d3 f g n2 p pa s sa sw t z) else (jbO (K_r_takeKnot D w f g n2 p pa s sa sw t z) (jk D 68 12 ([some (.ref 1), some (.int x1), some (.int x2), d3], []) [])) := by
  cases w
  · refine (jev_blk 1 (pc' := if u0 = 0 then 17 else 10) (L' := ([some (.ref 1), some (.int x1), some (.int x2), d3], [])) (S' := []) (h' := (jX f g n2 p pa s sa sw (.ref (jpl false)) t, z)) rfl).trans (jev_ite.trans (jite_congr (fun _ => ?_) (fun _ => ?_)))
    · rfl
    · refine (jev_blk 1 (pc' := 11) (L' := ([some (.ref 1), some (.int x1), some (.int x2), d3], [])) (S' := [.ref 1]) (h' := (jX f g n2 p pa s sa sw (.ref (jpl false)) t, z)) rfl).trans ?_
      exact jev_callb (nx := 12) (rest := []) rfl
  · refine (jev_blk 1 (pc' := if u0 = 0 then 17 else 10) (L' := ([some (.ref 1), some (.int x1), some (.int x2), d3], [])) (S' := []) (h' := (jX f g n2 p pa s sa sw (.ref (jpl true)) t, z)) rfl).trans (jev_ite.trans (jite_congr (fun _ => ?_) (fun _ => ?_)))
    · rfl
    · refine (jev_blk 1 (pc' := 11) (L' := ([some (.ref 1), some (.int x1), some (.int x2), d3], [])) (S' := [.ref 1]) (h' := (jX f g n2 p pa s sa sw (.ref (jpl true)) t, z)) rfl).trans ?_
      exact jev_callb (nx := 12) (rest := []) rfl
set_option maxRecDepth 20000 in
theorem E_r_readTruth_20 {D : Nat} {w : Bool} {d1 : Option Value} {x2 : Int32} {d3 : Option Value} {u0 : Int32} {f : Nat → Int32} {g : Nat → Nat → Int32} {n2 : Nat → Nat → Int64} {p : Nat → Nat → Int32} {pa : Nat → Nat → Nat → Int32} {s : Nat → Nat → Int32} {sa : Nat → Nat → Nat → Int32} {sw : Bool} {t : List jE} {z : Nat × Nat × Nat × (Nat → Int32)}  : jev D 68 20 ([some (.ref 1), d1, some (.int x2), d3], []) [.int u0] (jX f g n2 p pa s sa sw (.ref (jpl w)) t, z) = if u0 = 0 then (some (.inl (some (.int 0)), (jX f g n2 p pa s sa sw (.ref (jpl w)) t, z))) else (K_r_readTruth_25 D w d1 x2 0 f g n2 p pa s sa sw t z) := by
  cases w
  · refine (jev_blk 1 (pc' := if u0 = 0 then 21 else 23) (L' := ([some (.ref 1), d1, some (.int x2), d3], [])) (S' := []) (h' := (jX f g n2 p pa s sa sw (.ref (jpl false)) t, z)) rfl).trans (jev_ite.trans (jite_congr (fun _ => ?_) (fun _ => ?_)))
    · refine (jev_blk 1 (pc' := 22) (L' := ([some (.ref 1), d1, some (.int x2), d3], [])) (S' := [.int 0]) (h' := (jX f g n2 p pa s sa sw (.ref (jpl false)) t, z)) rfl).trans ?_
      exact jev_fin rfl
    · exact jev_blk 2 rfl
  · refine (jev_blk 1 (pc' := if u0 = 0 then 21 else 23) (L' := ([some (.ref 1), d1, some (.int x2), d3], [])) (S' := []) (h' := (jX f g n2 p pa s sa sw (.ref (jpl true)) t, z)) rfl).trans (jev_ite.trans (jite_congr (fun _ => ?_) (fun _ => ?_)))
    · refine (jev_blk 1 (pc' := 22) (L' := ([some (.ref 1), d1, some (.int x2), d3], [])) (S' := [.int 0]) (h' := (jX f g n2 p pa s sa sw (.ref (jpl true)) t, z)) rfl).trans ?_
      exact jev_fin rfl
    · exact jev_blk 2 rfl
set_option maxRecDepth 20000 in
theorem L_r_readTruth_25 {D : Nat} {w : Bool} {d1 : Option Value} {x2 : Int32} {x3 : Int32} {f : Nat → Int32} {g : Nat → Nat → Int32} {n2 : Nat → Nat → Int64} {p : Nat → Nat → Int32} {pa : Nat → Nat → Nat → Int32} {s : Nat → Nat → Int32} {sa : Nat → Nat → Nat → Int32} {sw : Bool} {t : List jE} {z : Nat × Nat × Nat × (Nat → Int32)}  : K_r_readTruth_25 D w d1 x2 x3 f g n2 p pa s sa sw t z = if x3 < x2 then (jbO (K_r_emit D w 2 0 f g n2 p pa s sa sw t z) (jk D 68 32 ([some (.ref 1), d1, some (.int x2), some (.int x3)], []) [])) else (some (.inl (some (.int 1)), (jX f g n2 p pa s sa sw (.ref (jpl w)) t, z))) := by
  cases w
  · refine (jev_blk 3 (pc' := if x3 < x2 then 28 else 35) (L' := ([some (.ref 1), d1, some (.int x2), some (.int x3)], [])) (S' := []) (h' := (jX f g n2 p pa s sa sw (.ref (jpl false)) t, z)) rfl).trans (jev_ite.trans (jite_congr (fun _ => ?_) (fun _ => ?_)))
    · refine (jev_blk 3 (pc' := 31) (L' := ([some (.ref 1), d1, some (.int x2), some (.int x3)], [])) (S' := [.int 0, .int 2, .ref 1]) (h' := (jX f g n2 p pa s sa sw (.ref (jpl false)) t, z)) rfl).trans ?_
      exact jev_callb (nx := 32) (rest := []) rfl
    · refine (jev_blk 1 (pc' := 36) (L' := ([some (.ref 1), d1, some (.int x2), some (.int x3)], [])) (S' := [.int 1]) (h' := (jX f g n2 p pa s sa sw (.ref (jpl false)) t, z)) rfl).trans ?_
      exact jev_fin rfl
  · refine (jev_blk 3 (pc' := if x3 < x2 then 28 else 35) (L' := ([some (.ref 1), d1, some (.int x2), some (.int x3)], [])) (S' := []) (h' := (jX f g n2 p pa s sa sw (.ref (jpl true)) t, z)) rfl).trans (jev_ite.trans (jite_congr (fun _ => ?_) (fun _ => ?_)))
    · refine (jev_blk 3 (pc' := 31) (L' := ([some (.ref 1), d1, some (.int x2), some (.int x3)], [])) (S' := [.int 0, .int 2, .ref 1]) (h' := (jX f g n2 p pa s sa sw (.ref (jpl true)) t, z)) rfl).trans ?_
      exact jev_callb (nx := 32) (rest := []) rfl
    · refine (jev_blk 1 (pc' := 36) (L' := ([some (.ref 1), d1, some (.int x2), some (.int x3)], [])) (S' := [.int 1]) (h' := (jX f g n2 p pa s sa sw (.ref (jpl true)) t, z)) rfl).trans ?_
      exact jev_fin rfl
set_option maxRecDepth 20000 in
theorem E_r_readTruth_12 {D : Nat} {w : Bool} {x1 : Int32} {x2 : Int32} {d3 : Option Value} {u0 : Int32} {f : Nat → Int32} {g : Nat → Nat → Int32} {n2 : Nat → Nat → Int64} {p : Nat → Nat → Int32} {pa : Nat → Nat → Nat → Int32} {s : Nat → Nat → Int32} {sa : Nat → Nat → Nat → Int32} {sw : Bool} {t : List jE} {z : Nat × Nat × Nat × (Nat → Int32)}  : jev D 68 12 ([some (.ref 1), some (.int x1), some (.int x2), d3], []) [.int u0] (jX f g n2 p pa s sa sw (.ref (jpl w)) t, z) = if u0 = 0 then (some (.inl (some (.int 0)), (jX f g n2 p pa s sa sw (.ref (jpl w)) t, z))) else (K_r_readTruth_2 D w x1 (x2 + 1) d3 f g n2 p pa s sa sw t z) := by
  cases w
  · refine (jev_blk 1 (pc' := if u0 = 0 then 13 else 15) (L' := ([some (.ref 1), some (.int x1), some (.int x2), d3], [])) (S' := []) (h' := (jX f g n2 p pa s sa sw (.ref (jpl false)) t, z)) rfl).trans (jev_ite.trans (jite_congr (fun _ => ?_) (fun _ => ?_)))
    · refine (jev_blk 1 (pc' := 14) (L' := ([some (.ref 1), some (.int x1), some (.int x2), d3], [])) (S' := [.int 0]) (h' := (jX f g n2 p pa s sa sw (.ref (jpl false)) t, z)) rfl).trans ?_
      exact jev_fin rfl
    · exact jev_blk 2 rfl
  · refine (jev_blk 1 (pc' := if u0 = 0 then 13 else 15) (L' := ([some (.ref 1), some (.int x1), some (.int x2), d3], [])) (S' := []) (h' := (jX f g n2 p pa s sa sw (.ref (jpl true)) t, z)) rfl).trans (jev_ite.trans (jite_congr (fun _ => ?_) (fun _ => ?_)))
    · refine (jev_blk 1 (pc' := 14) (L' := ([some (.ref 1), some (.int x1), some (.int x2), d3], [])) (S' := [.int 0]) (h' := (jX f g n2 p pa s sa sw (.ref (jpl true)) t, z)) rfl).trans ?_
      exact jev_fin rfl
    · exact jev_blk 2 rfl
set_option maxRecDepth 20000 in
theorem E_r_readTruth_32 {D : Nat} {w : Bool} {d1 : Option Value} {x2 : Int32} {x3 : Int32} {u0 : Int32} {f : Nat → Int32} {g : Nat → Nat → Int32} {n2 : Nat → Nat → Int64} {p : Nat → Nat → Int32} {pa : Nat → Nat → Nat → Int32} {s : Nat → Nat → Int32} {sa : Nat → Nat → Nat → Int32} {sw : Bool} {t : List jE} {z : Nat × Nat × Nat × (Nat → Int32)}  : jev D 68 32 ([some (.ref 1), d1, some (.int x2), some (.int x3)], []) [.int u0] (jX f g n2 p pa s sa sw (.ref (jpl w)) t, z) = K_r_readTruth_25 D w d1 x2 (x3 + 1) f g n2 p pa s sa sw t z := by
  cases w
  · exact jev_blk 3 rfl
  · exact jev_blk 3 rfl
set_option maxRecDepth 20000 in
theorem E_r_readCompared {D : Nat} {w : Bool} {a0 : Int32} {f : Nat → Int32} {g : Nat → Nat → Int32} {n2 : Nat → Nat → Int64} {p : Nat → Nat → Int32} {pa : Nat → Nat → Nat → Int32} {s : Nat → Nat → Int32} {sa : Nat → Nat → Nat → Int32} {sw : Bool} {t : List jE} {z : Nat × Nat × Nat × (Nat → Int32)}  : K_r_readCompared (D + 1) w a0 f g n2 p pa s sa sw t z = jbO (K_r_readSum D w a0 f g n2 p pa s sa sw t z) (jk (D + 1) 69 3 ([some (.ref 1), some (.int a0), none], []) []) := by
  cases w
  · refine (jev_blk 2 (pc' := 2) (L' := ([some (.ref 1), some (.int a0), none], [])) (S' := [.int a0, .ref 1]) (h' := (jX f g n2 p pa s sa sw (.ref (jpl false)) t, z)) rfl).trans ?_
    exact jev_callb (nx := 3) (rest := []) rfl
  · refine (jev_blk 2 (pc' := 2) (L' := ([some (.ref 1), some (.int a0), none], [])) (S' := [.int a0, .ref 1]) (h' := (jX f g n2 p pa s sa sw (.ref (jpl true)) t, z)) rfl).trans ?_
    exact jev_callb (nx := 3) (rest := []) rfl
set_option maxRecDepth 20000 in
theorem E_r_readCompared_3 {D : Nat} {w : Bool} {x1 : Int32} {d2 : Option Value} {u0 : Int32} {f : Nat → Int32} {g : Nat → Nat → Int32} {n2 : Nat → Nat → Int64} {p : Nat → Nat → Int32} {pa : Nat → Nat → Nat → Int32} {s : Nat → Nat → Int32} {sa : Nat → Nat → Nat → Int32} {sw : Bool} {t : List jE} {z : Nat × Nat × Nat × (Nat → Int32)}  : jev D 69 3 ([some (.ref 1), some (.int x1), d2], []) [.int u0] (jX f g n2 p pa s sa sw (.ref (jpl w)) t, z) = if u0 = 0 then (some (.inl (some (.int 0)), (jX f g n2 p pa s sa sw (.ref (jpl w)) t, z))) else (if (f 11) = 5 then (if (f 12) < 5 then (some (.inl (some (.int 1)), (jX f g n2 p pa s sa sw (.ref (jpl w)) t, z))) else (if 10 < (f 12) then (some (.inl (some (.int 1)), (jX f g n2 p pa s sa sw (.ref (jpl w)) t, z))) else (jbO (K_r_takeKnot D w f g n2 p pa s sa sw t z) (jk D 69 25 ([some (.ref 1), some (.int x1), some (.int (f 12))], []) [])))) else (some (.inl (some (.int 1)), (jX f g n2 p pa s sa sw (.ref (jpl w)) t, z)))) := by
  cases w
  · refine (jev_blk 1 (pc' := if u0 = 0 then 4 else 6) (L' := ([some (.ref 1), some (.int x1), d2], [])) (S' := []) (h' := (jX f g n2 p pa s sa sw (.ref (jpl false)) t, z)) rfl).trans (jev_ite.trans (jite_congr (fun _ => ?_) (fun _ => ?_)))
    · refine (jev_blk 1 (pc' := 5) (L' := ([some (.ref 1), some (.int x1), d2], [])) (S' := [.int 0]) (h' := (jX f g n2 p pa s sa sw (.ref (jpl false)) t, z)) rfl).trans ?_
      exact jev_fin rfl
    · refine (jev_blk 9 (pc' := if (f 11) = 5 then 15 else 21) (L' := ([some (.ref 1), some (.int x1), some (.int (f 12))], [])) (S' := []) (h' := (jX f g n2 p pa s sa sw (.ref (jpl false)) t, z)) rfl).trans (jev_ite.trans (jite_congr (fun _ => ?_) (fun _ => ?_)))
      · refine (jev_blk 3 (pc' := if (f 12) < 5 then 21 else 18) (L' := ([some (.ref 1), some (.int x1), some (.int (f 12))], [])) (S' := []) (h' := (jX f g n2 p pa s sa sw (.ref (jpl false)) t, z)) rfl).trans (jev_ite.trans (jite_congr (fun _ => ?_) (fun _ => ?_)))
        · refine (jev_blk 1 (pc' := 22) (L' := ([some (.ref 1), some (.int x1), some (.int (f 12))], [])) (S' := [.int 1]) (h' := (jX f g n2 p pa s sa sw (.ref (jpl false)) t, z)) rfl).trans ?_
          exact jev_fin rfl
        · refine (jev_blk 3 (pc' := if 10 < (f 12) then 21 else 23) (L' := ([some (.ref 1), some (.int x1), some (.int (f 12))], [])) (S' := []) (h' := (jX f g n2 p pa s sa sw (.ref (jpl false)) t, z)) rfl).trans (jev_ite.trans (jite_congr (fun _ => ?_) (fun _ => ?_)))
          · refine (jev_blk 1 (pc' := 22) (L' := ([some (.ref 1), some (.int x1), some (.int (f 12))], [])) (S' := [.int 1]) (h' := (jX f g n2 p pa s sa sw (.ref (jpl false)) t, z)) rfl).trans ?_
            exact jev_fin rfl
          · refine (jev_blk 1 (pc' := 24) (L' := ([some (.ref 1), some (.int x1), some (.int (f 12))], [])) (S' := [.ref 1]) (h' := (jX f g n2 p pa s sa sw (.ref (jpl false)) t, z)) rfl).trans ?_
            exact jev_callb (nx := 25) (rest := []) rfl
      · refine (jev_blk 1 (pc' := 22) (L' := ([some (.ref 1), some (.int x1), some (.int (f 12))], [])) (S' := [.int 1]) (h' := (jX f g n2 p pa s sa sw (.ref (jpl false)) t, z)) rfl).trans ?_
        exact jev_fin rfl
  · refine (jev_blk 1 (pc' := if u0 = 0 then 4 else 6) (L' := ([some (.ref 1), some (.int x1), d2], [])) (S' := []) (h' := (jX f g n2 p pa s sa sw (.ref (jpl true)) t, z)) rfl).trans (jev_ite.trans (jite_congr (fun _ => ?_) (fun _ => ?_)))
    · refine (jev_blk 1 (pc' := 5) (L' := ([some (.ref 1), some (.int x1), d2], [])) (S' := [.int 0]) (h' := (jX f g n2 p pa s sa sw (.ref (jpl true)) t, z)) rfl).trans ?_
      exact jev_fin rfl
    · refine (jev_blk 9 (pc' := if (f 11) = 5 then 15 else 21) (L' := ([some (.ref 1), some (.int x1), some (.int (f 12))], [])) (S' := []) (h' := (jX f g n2 p pa s sa sw (.ref (jpl true)) t, z)) rfl).trans (jev_ite.trans (jite_congr (fun _ => ?_) (fun _ => ?_)))
      · refine (jev_blk 3 (pc' := if (f 12) < 5 then 21 else 18) (L' := ([some (.ref 1), some (.int x1), some (.int (f 12))], [])) (S' := []) (h' := (jX f g n2 p pa s sa sw (.ref (jpl true)) t, z)) rfl).trans (jev_ite.trans (jite_congr (fun _ => ?_) (fun _ => ?_)))
        · refine (jev_blk 1 (pc' := 22) (L' := ([some (.ref 1), some (.int x1), some (.int (f 12))], [])) (S' := [.int 1]) (h' := (jX f g n2 p pa s sa sw (.ref (jpl true)) t, z)) rfl).trans ?_
          exact jev_fin rfl
        · refine (jev_blk 3 (pc' := if 10 < (f 12) then 21 else 23) (L' := ([some (.ref 1), some (.int x1), some (.int (f 12))], [])) (S' := []) (h' := (jX f g n2 p pa s sa sw (.ref (jpl true)) t, z)) rfl).trans (jev_ite.trans (jite_congr (fun _ => ?_) (fun _ => ?_)))
          · refine (jev_blk 1 (pc' := 22) (L' := ([some (.ref 1), some (.int x1), some (.int (f 12))], [])) (S' := [.int 1]) (h' := (jX f g n2 p pa s sa sw (.ref (jpl true)) t, z)) rfl).trans ?_
            exact jev_fin rfl
          · refine (jev_blk 1 (pc' := 24) (L' := ([some (.ref 1), some (.int x1), some (.int (f 12))], [])) (S' := [.ref 1]) (h' := (jX f g n2 p pa s sa sw (.ref (jpl true)) t, z)) rfl).trans ?_
            exact jev_callb (nx := 25) (rest := []) rfl
      · refine (jev_blk 1 (pc' := 22) (L' := ([some (.ref 1), some (.int x1), some (.int (f 12))], [])) (S' := [.int 1]) (h' := (jX f g n2 p pa s sa sw (.ref (jpl true)) t, z)) rfl).trans ?_
        exact jev_fin rfl
set_option maxRecDepth 20000 in
theorem E_r_readCompared_25 {D : Nat} {w : Bool} {x1 : Int32} {x2 : Int32} {u0 : Int32} {f : Nat → Int32} {g : Nat → Nat → Int32} {n2 : Nat → Nat → Int64} {p : Nat → Nat → Int32} {pa : Nat → Nat → Nat → Int32} {s : Nat → Nat → Int32} {sa : Nat → Nat → Nat → Int32} {sw : Bool} {t : List jE} {z : Nat × Nat × Nat × (Nat → Int32)}  : jev (D + 1) 69 25 ([some (.ref 1), some (.int x1), some (.int x2)], []) [.int u0] (jX f g n2 p pa s sa sw (.ref (jpl w)) t, z) = if u0 = 0 then (some (.inl (some (.int 0)), (jX f g n2 p pa s sa sw (.ref (jpl w)) t, z))) else (jbO (K_r_readSum D w x1 f g n2 p pa s sa sw t z) (jk (D + 1) 69 29 ([some (.ref 1), some (.int x1), some (.int x2)], []) [])) := by
  cases w
  · refine (jev_blk 1 (pc' := if u0 = 0 then 37 else 26) (L' := ([some (.ref 1), some (.int x1), some (.int x2)], [])) (S' := []) (h' := (jX f g n2 p pa s sa sw (.ref (jpl false)) t, z)) rfl).trans (jev_ite.trans (jite_congr (fun _ => ?_) (fun _ => ?_)))
    · refine (jev_blk 1 (pc' := 38) (L' := ([some (.ref 1), some (.int x1), some (.int x2)], [])) (S' := [.int 0]) (h' := (jX f g n2 p pa s sa sw (.ref (jpl false)) t, z)) rfl).trans ?_
      exact jev_fin rfl
    · refine (jev_blk 2 (pc' := 28) (L' := ([some (.ref 1), some (.int x1), some (.int x2)], [])) (S' := [.int x1, .ref 1]) (h' := (jX f g n2 p pa s sa sw (.ref (jpl false)) t, z)) rfl).trans ?_
      exact jev_callb (nx := 29) (rest := []) rfl
  · refine (jev_blk 1 (pc' := if u0 = 0 then 37 else 26) (L' := ([some (.ref 1), some (.int x1), some (.int x2)], [])) (S' := []) (h' := (jX f g n2 p pa s sa sw (.ref (jpl true)) t, z)) rfl).trans (jev_ite.trans (jite_congr (fun _ => ?_) (fun _ => ?_)))
    · refine (jev_blk 1 (pc' := 38) (L' := ([some (.ref 1), some (.int x1), some (.int x2)], [])) (S' := [.int 0]) (h' := (jX f g n2 p pa s sa sw (.ref (jpl true)) t, z)) rfl).trans ?_
      exact jev_fin rfl
    · refine (jev_blk 2 (pc' := 28) (L' := ([some (.ref 1), some (.int x1), some (.int x2)], [])) (S' := [.int x1, .ref 1]) (h' := (jX f g n2 p pa s sa sw (.ref (jpl true)) t, z)) rfl).trans ?_
      exact jev_callb (nx := 29) (rest := []) rfl
