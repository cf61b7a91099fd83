-- THE START: both begin (printed by genbegin.py)
def sf0 : Nat → Int32 := fun k => if k = 8 then -1 else if k = 15 then -1 else if k = 25 then -1 else 0
def sg0 : Nat → Nat → Int32 := fun k => if k = 1 then jtkg else fun _ => 0
def sn0 : Nat → Nat → Int64 := fun _ _ => 0
def sp0 : Nat → Nat → Int32 := fun _ k => if k = 1 then 5 else if k = 2 then 4 else if k = 6 then 12 else if k = 7 then 5 else if k = 8 then 10 else 0
def spa0 : Nat → Nat → Nat → Int32 := fun _ k => if k = 0 then jfil 10 30 (fun _ => 0) else fun _ => 0
def ss0 : Nat → Nat → Int32 := fun _ _ => 0
def ssa0 : Nat → Nat → Nat → Int32 := fun _ _ _ => 0
def smf0 : Nat → Int32 := fun k => if k = 12 then -1 else if k = 16 then -1 else if k = 19 then -1 else if k = 20 then -1 else if k = 24 then -1 else 0
def smg0 : Nat → Nat → Int32 := fun k => if k = 1 then (jup (jup (jup (jup (jup (jup (jup (jup (jup (jup (jup (jup (jup (jup (jup (jup (jup (jup (jup (jup (jup (jup (fun _ => 0) 0 5) 1 4) 2 0) 3 0) 4 12) 5 5) 6 0) 7 10) 8 0) 9 0) 10 0) 11 5) 12 4) 13 0) 14 0) 15 12) 16 5) 17 0) 18 10) 19 0) 20 0) 21 0) else fun _ => 0
def smn0 : Nat → Nat → Int64 := fun _ _ => 0
def smb0 : Nat → Nat → Int32 := fun _ _ => 0
def sml0 : Nat → Int64 := fun _ => 0
theorem j3 {a b c : Nat} : jup (jup (jup (fun _ => none) 0 (some a)) 1 (some b)) 2 (some c) = fun i => jnth [a, b, c] i := by
  funext i
  match i with
  | 0 => rfl
  | 1 => rfl
  | 2 => rfl
  | i + 3 =>
    show jup _ _ _ (i + 3) = jnth [] i
    rw [jup_ne (by omega), jup_ne (by omega), jup_ne (by omega)]
    cases i <;> rfl
abbrev ss1 : Nat → Nat → Int32 := jup ss0 0 (jbeg (spa0 0) 20 (ss0 0, ssa0 0)).1
abbrev ssa1 : Nat → Nat → Nat → Int32 := jup ssa0 0 (jbeg (spa0 0) 20 (ss0 0, ssa0 0)).2
set_option maxRecDepth 20000 in
set_option maxHeartbeats 2000000 in
theorem B_cells : ([.inr (10, [.ref 1, .int 0, .ref 5, .ref 24, .ref 43, .ref 49, .ref 55, .ref 61, .int 0, .ref 67, .ref 71, .ref 76, .ref 78]), .inr (5, [.ref 2, .null, .int 0, .int 0, .int 0, .int 0, .int 0, .int 0, .int (-1)]), .inr (8, [.ref 3, .ref 4, .int 0, .int 0, .int 0, .int 0, .int 0]), .inl (0, 700, .inl (fun _ => 0)), .inl (0, 22, .inl jtkg), .inr (4, [.int 0, .int 5, .int 4, .ref 6, .int 0, .ref 7, .ref 8, .ref 9, .ref 10, .ref 11, .ref 12, .int 0, .int 0, .ref 13, .int 12, .int 5, .int 10, .int 0, .ref 14]), .inl (0, 30, .inl (jfil (10) 30 ((fun _ => 0)))), .inl (0, 6, .inl (fun _ => 0)), .inl (0, 6, .inl (fun _ => 0)), .inl (0, 6, .inl (fun _ => 0)), .inl (0, 6, .inl (fun _ => 0)), .inl (0, 6, .inl (fun _ => 0)), .inl (0, 6, .inl (fun _ => 0)), .inl (0, 14, .inl (fun _ => 0)), .inl (3, 3, .inr (.inr (.inr (.inr (jup (jup (jup (fun _ => none) 0 (some 15)) 1 (some 18)) 2 (some 21)))))), .inr (1, [.int 0, .ref 16, .ref 17]), .inl (0, 64, .inl (fun _ => 0)), .inl (0, 64, .inl (fun _ => 0)), .inr (1, [.int 0, .ref 19, .ref 20]), .inl (0, 64, .inl (fun _ => 0)), .inl (0, 64, .inl (fun _ => 0)), .inr (1, [.int 0, .ref 22, .ref 23]), .inl (0, 64, .inl (fun _ => 0)), .inl (0, 64, .inl (fun _ => 0)), .inr (4, [.int 0, .int 5, .int 4, .ref 25, .int 0, .ref 26, .ref 27, .ref 28, .ref 29, .ref 30, .ref 31, .int 0, .int 0, .ref 32, .int 12, .int 5, .int 10, .int 0, .ref 33]), .inl (0, 30, .inl (jfil (10) 30 ((fun _ => 0)))), .inl (0, 6, .inl (fun _ => 0)), .inl (0, 6, .inl (fun _ => 0)), .inl (0, 6, .inl (fun _ => 0)), .inl (0, 6, .inl (fun _ => 0)), .inl (0, 6, .inl (fun _ => 0)), .inl (0, 6, .inl (fun _ => 0)), .inl (0, 14, .inl (fun _ => 0)), .inl (3, 3, .inr (.inr (.inr (.inr (jup (jup (jup (fun _ => none) 0 (some 34)) 1 (some 37)) 2 (some 40)))))), .inr (1, [.int 0, .ref 35, .ref 36]), .inl (0, 64, .inl (fun _ => 0)), .inl (0, 64, .inl (fun _ => 0)), .inr (1, [.int 0, .ref 38, .ref 39]), .inl (0, 64, .inl (fun _ => 0)), .inl (0, 64, .inl (fun _ => 0)), .inr (1, [.int 0, .ref 41, .ref 42]), .inl (0, 64, .inl (fun _ => 0)), .inl (0, 64, .inl (fun _ => 0)), .inr (0, [.ref 5, .ref 44, .ref 46, .ref 47, .ref 48, .int 0, .int (-1)]), .inr (9, [.int 0, .int 0, .int 0, .int 0, .int 0, .int 0, .int 0, .ref 45]), .inl (0, 9, .inl (fun _ => 0)), .inl (1, 7, .inr (.inl (fun _ => 0))), .inl (1, 64, .inr (.inl (fun _ => 0))), .inl (0, 6480, .inl (fun _ => 0)), .inr (6, [.int 0, .int 0, .ref 50, .ref 51, .ref 52, .ref 53, .ref 54, .int 0, .int 0, .int 0, .int 0]), .inl (0, 30, .inl (fun _ => 0)), .inl (0, 12, .inl (fun _ => 0)), .inl (0, 6, .inl (fun _ => 0)), .inl (0, 6, .inl (fun _ => 0)), .inl (0, 6, .inl (fun _ => 0)), .inr (6, [.int 0, .int 0, .ref 56, .ref 57, .ref 58, .ref 59, .ref 60, .int 0, .int 0, .int 0, .int 0]), .inl (0, 30, .inl (fun _ => 0)), .inl (0, 12, .inl (fun _ => 0)), .inl (0, 6, .inl (fun _ => 0)), .inl (0, 6, .inl (fun _ => 0)), .inl (0, 6, .inl (fun _ => 0)), .inr (6, [.int 0, .int 0, .ref 62, .ref 63, .ref 64, .ref 65, .ref 66, .int 0, .int 0, .int 0, .int 0]), .inl (0, 30, .inl (fun _ => 0)), .inl (0, 12, .inl (fun _ => 0)), .inl (0, 6, .inl (fun _ => 0)), .inl (0, 6, .inl (fun _ => 0)), .inl (0, 6, .inl (fun _ => 0)), .inr (7, [.int 0, .ref 68, .ref 69, .ref 70]), .inl (0, 20, .inl (fun _ => 0)), .inl (0, 20, .inl (fun _ => 0)), .inl (0, 20, .inl (fun _ => 0)), .inr (3, [.int 0, .int (-1), .ref 72, .ref 73, .ref 74, .ref 75]), .inl (0, 24, .inl (fun _ => 0)), .inl (0, 24, .inl (fun _ => 0)), .inl (0, 24, .inl (fun _ => 0)), .inl (0, 24, .inl (fun _ => 0)), .inr (2, [.ref 77, .int 0, .int 0, .int 0, .int 0]), .inl (0, 4, .inl (fun _ => 0)), .inl (0, 6, .inl (fun _ => 0))] : List jE) = jX sf0 sg0 sn0 sp0 spa0 ss0 ssa0 false .null [] := by
  rw [j3, j3]
  rfl
set_option maxRecDepth 20000 in
set_option maxHeartbeats 2000000 in
theorem B_class {D nn : Nat} {xs : Nat → Int32} : jev D 99 0 ([some (.ref 0)], []) [] ([.inr (10, [.null, .int 0, .null, .null, .null, .null, .null, .null, .int 0, .null, .null, .null, .null])], (1, 13, nn, xs)) = some (.inl none, (jX sf0 sg0 sn0 sp0 spa0 ss1 ssa1 false .null [], (79, 8710, nn, xs))) := by
  rw [N_new, B_cells]
  refine (jev_call (nx := 63) (rest := []) rfl (S_s_begin (D := D) (j := 0) (w := false) (C := 20) (f := sf0) (g := sg0) (n2 := sn0) (p := sp0) (pa := spa0) (s := ss0) (sa := ssa0) (sw := false) (rp := .null) (t := []) (z := (79, 8710, nn, xs)) (by omega) rfl (by omega))).trans ?_
  exact jev_fin rfl
set_option maxRecDepth 20000 in
set_option maxHeartbeats 2000000 in
theorem B_model {D nn : Nat} {xs : Nat → Int32} {f : Nat → Int32} {g : Nat → Nat → Int32} {n2 : Nat → Nat → Int64} {p : Nat → Nat → Int32} {pa : Nat → Nat → Nat → Int32} {s : Nat → Nat → Int32} {sa : Nat → Nat → Nat → Int32} {sw : Bool} {rp : Value} {q : Nat → Int32} {qa : Nat → Nat → Int32} {A : jS} (hP : rPl q qa 20 0 smg0) :
    ∃ g', jev D 138 0 ([some (.ref 79)], []) [] (jX f g n2 p pa s sa sw rp [.inr (11, [.int 0, .null, .int 0, .null, .null, .null, .null, .null, .null, .null, .null, .null, .null, .null, .null, .null, .int 0, .int 0, .int 0, .int 0, .int 0, .int 0, .int 0, .int 0, .int 0, .int 0, .int 0, .int 0, .int 0, .null, .null, .int 0, .null, .null, .null, .null, .null, .null, .null, .null, .null, .null, .null, .null, .int 0, .int 0, .int 0, .int 0, .int 0, .int 0, .int 0, .null, .null, .long 0, .long 0, .long 0, .long 0, .null, .null, .int 0, .int 0, .null, .null, .null, .null, .null, .null])], (80, 8777, nn, xs)) = some (.inl none, (jX f g n2 p pa s sa sw rp (jY smf0 g' smn0 smb0 sml0 []), (118, 11692, nn, xs))) ∧ jfo 0 smg0 g' ∧ g' 19 0 = 0 ∧ rSt 20 0 (jbeg qa 20 A) 0 0 0 (-1) 0 g' := by
  obtain ⟨g', hs, hfo, h19, hst⟩ := M_starts (D := D) (F := 0) (A := A) (tw := -1) (cx := (f, g, n2, p, pa, s, sa, sw, rp)) (f := smf0) (g := smg0) (n := smn0) (b := smb0) (l := sml0) (t := []) (z := (118, 11692, nn, xs)) (by omega) hP (by decide)
  refine ⟨g', ?_, hfo, h19, hst⟩
  rw [Nm_new]
  have hs2 : K_m_starts D 0 (f, g, n2, p, pa, s, sa, sw, rp) smf0 smg0 smn0 smb0 sml0 [] (118, 11692, nn, xs) = _ := hs
  have hb : K_m_begins D (f, g, n2, p, pa, s, sa, sw, rp) smf0 smg0 smn0 smb0 sml0 [] (118, 11692, nn, xs) = some (.inl none, (jXt (f, g, n2, p, pa, s, sa, sw, rp) (jY smf0 g' smn0 smb0 sml0 []), (118, 11692, nn, xs))) := by
    rw [E_m_begins, hs2]
    simp only [jbO_some, jbO_none, jbO_ite, jk_some, jk_none, E_m_begins_3]
  refine (jev_call (nx := 259) (rest := []) rfl hb).trans ?_
  exact jev_fin rfl
theorem B_rPl : rPl (sp0 0) (spa0 0) 20 0 smg0 := by
  refine ⟨⟨rfl, by omega, by omega, by decide, rfl, by omega, ⟨0, rfl, by omega⟩, fun i hi => absurd hi (by omega), ⟨0, rfl, by omega, Or.inl rfl⟩, ⟨0, rfl, by omega, Or.inl rfl⟩, ⟨0, rfl, by omega, Or.inl rfl⟩⟩, ⟨rfl, rfl, rfl, rfl, rfl, rfl, rfl, rfl, rfl⟩, ?_, fun i hi => absurd hi (by omega), fun d hd => absurd (show d < 0 from hd) (by omega), ⟨0, rfl, rfl, (show 0 + 0 ≤ 64 by omega), fun k hk => absurd (show k < 0 from hk) (by omega)⟩, ⟨0, rfl, rfl, (show 0 + 0 ≤ 64 by omega), fun k hk => absurd (show k < 0 from hk) (by omega)⟩, ⟨0, rfl, rfl, (show 0 + 0 ≤ 64 by omega), fun k hk => absurd (show k < 0 from hk) (by omega)⟩⟩
  intro c hc
  show (10 : Int32) = jfil 10 30 (fun _ => 0) c
  unfold jfil
  rw [if_pos (by omega)]
theorem B_RR {g' : Nat → Nat → Int32} (hfo : jfo 0 smg0 g') (h19 : g' 19 0 = 0) (hst : rSt 20 0 (jbeg (spa0 0) 20 (ss0 0, ssa0 0)) 0 0 0 (-1) 0 g') : RR sf0 sg0 sp0 spa0 ss1 ssa1 false smf0 g' smb0 := by
  refine ⟨20, 0, hfo.pl B_rPl, ⟨5, by omega, rfl⟩, ⟨rfl, rfl, rfl, rfl, rfl, rfl, rfl, rfl⟩, ⟨rfl, rfl, rfl⟩, ⟨hst, h19, ⟨0, ⟨rfl, rfl⟩, by omega⟩, ⟨?_, ?_⟩, ⟨0, by omega, rfl⟩, fun i hi => absurd hi (by omega)⟩, ⟨rfl, Or.inl rfl, fun e => absurd rfl e⟩, ⟨0, by omega, rfl, rfl, fun m hm => absurd hm (by omega), fun m hm => absurd hm (by omega)⟩, ⟨0, by omega, rfl, rfl, rfl, Or.inl rfl, fun m hm => absurd hm (by omega)⟩, ⟨0, by omega, rfl, rfl, fun m hm => absurd hm (by omega)⟩, ⟨rfl, rfl⟩, ?_, ⟨12, by omega, rfl⟩⟩
  · intro c hc
    refine ⟨10, by omega, ?_⟩
    show jbcr (spa0 0) 20 30 (ssa0 0 0) c = _
    unfold jbcr
    rw [if_pos (by omega), if_pos hc]
    show jfil 10 30 (fun _ => 0) c = _
    unfold jfil
    rw [if_pos (by omega)]
    rfl
  · intro c hc hc2
    show jbcr (spa0 0) 20 30 (ssa0 0 0) c = _
    unfold jbcr
    rw [if_pos (by omega), if_neg (by omega)]
  · exact jtkg_ok
set_option maxRecDepth 20000 in
set_option maxHeartbeats 2000000 in
/-- the law's run, whole -/
theorem W_law {nn : Nat} {xs : Nat → Int32} (hn : nn < 2147483000) : ∃ h', jev 200 245 0 ([some (.retAddr 0), none, none, none, none, none, none], []) [] ([], (0, 0, nn, xs)) = some (.inl (some (.int 1)), h') ∧ h'.2.1 ≤ 119 + (nn + 6) ∧ h'.2.2.1 ≤ 11693 + 6 * (nn + 6) := by
  obtain ⟨g', hm, hfo, h19, hst⟩ := B_model (D := 200) (nn := nn) (xs := xs) (f := sf0) (g := sg0) (n2 := sn0) (p := sp0) (pa := spa0) (s := ss1) (sa := ssa1) (sw := false) (rp := .null) (A := (ss0 0, ssa0 0)) B_rPl
  have hR := B_RR hfo h19 hst
  obtain ⟨h', hh, b0, b1⟩ := W_run (D := 200) (nn := nn) (xs := xs) (by omega) hn (nn + 6) 0 119 11693 (d5 := none) (d6 := none) (fo := fun _ => 0) (n2 := sn0) (rp := .null) (mn := smn0) (ml := sml0) (by omega) (by omega) hR
  refine ⟨h', ?_, b0, b1⟩
  rw [← hh]
  refine (jev_blk 2 (pc' := 2) (L' := ([some (.retAddr 0), none, none, none, none, none, none], [])) (S' := [.ref 0, .ref 0]) (h' := ([.inr (10, [.null, .int 0, .null, .null, .null, .null, .null, .null, .int 0, .null, .null, .null, .null])], (1, 13, nn, xs))) rfl).trans ?_
  refine (jev_call (nx := 3) (rest := [.ref 0]) rfl B_class).trans ?_
  refine (jev_blk 3 (pc' := 6) (L' := ([some (.retAddr 0), some (.ref 0), none, none, none, none, none], [])) (S' := [.ref 79, .ref 79]) (h' := (jX sf0 sg0 sn0 sp0 spa0 ss1 ssa1 false .null [.inr (11, [.int 0, .null, .int 0, .null, .null, .null, .null, .null, .null, .null, .null, .null, .null, .null, .null, .null, .int 0, .int 0, .int 0, .int 0, .int 0, .int 0, .int 0, .int 0, .int 0, .int 0, .int 0, .int 0, .int 0, .null, .null, .int 0, .null, .null, .null, .null, .null, .null, .null, .null, .null, .null, .null, .null, .int 0, .int 0, .int 0, .int 0, .int 0, .int 0, .int 0, .null, .null, .long 0, .long 0, .long 0, .long 0, .null, .null, .int 0, .int 0, .null, .null, .null, .null, .null, .null])], (80, 8777, nn, xs))) rfl).trans ?_
  refine (jev_call (nx := 7) (rest := [.ref 79]) rfl hm).trans ?_
  refine (jev_blk 4 (pc' := 11) (L' := ([some (.retAddr 0), some (.ref 0), some (.ref 79), some (.ref 118), none, none, none], [])) (S' := []) (h' := (jX sf0 sg0 sn0 sp0 spa0 ss1 ssa1 false .null (jY smf0 g' smn0 smb0 sml0 (jOut (fun _ => 0))), (119, 11693, nn, xs))) rfl).trans ?_
  exact jev_blk 2 rfl
