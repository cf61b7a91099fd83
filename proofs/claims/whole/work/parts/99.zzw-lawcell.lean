-- THE LAW: the case that catches
set_option maxRecDepth 20000 in
theorem lw_cat {D m : Nat} {d5 d6 : Option Value} {a b : Int32} {f : Nat → Int32} {g : Nat → Nat → Int32} {n2 : Nat → Nat → Int64} {p : Nat → Nat → Int32} {pa : Nat → Nat → Nat → Int32} {s : Nat → Nat → Int32} {sa : Nat → Nat → Nat → Int32} {sw : Bool} {rp : Value} {t : List jE} {z : Nat × Nat × Nat × (Nat → Int32)} : jev D 245 145 (LW m d5 d6) [.ref 118, .int b, .int a, .ref 0] ((jX f g n2 p pa s sa sw rp t, z)) = match jcatch (.ref 118) (K_c_cell D a b f g n2 p pa s sa sw rp t z) with
    | none => none
    | some (r, h) => jev D 245 146 (LW m d5 d6) (r.toList ++ []) h := (jev_go D 245 145 (LW m d5 d6) [.ref 118, .int b, .int a, .ref 0] ((jX f g n2 p pa s sa sw rp t, z))).trans rfl
set_option maxRecDepth 20000 in
set_option maxHeartbeats 4000000 in
theorem W_4 {D m z0 z1 nn : Nat} {xs : Nat → Int32} {d5 d6 : Option Value} {fo : Nat → Int64} {f : Nat → Int32} {g : Nat → Nat → Int32} {n2 : Nat → Nat → Int64} {p : Nat → Nat → Int32} {pa : Nat → Nat → Nat → Int32} {s : Nat → Nat → Int32} {sa : Nat → Nat → Nat → Int32} {sw : Bool} {rp : Value} {mf : Nat → Int32} {mg : Nat → Nat → Int32} {mn : Nat → Nat → Int64} {mb : Nat → Nat → Int32} {ml : Nat → Int64} (hl : m + 6 ≤ nn) (hn : nn < 2147483648) (h : RR f g p pa s sa sw mf mg mb) : jWo D m z0 z1 nn xs (jev D 245 133 (LW m d5 d6) [] (jX f g n2 p pa s sa sw rp (jY mf mg mn mb ml (jOut fo)), (z0, z1, nn, xs))) := by
  have hl1 : m + 1 < nn := by omega
  have hl2 : m + 2 < nn := by omega
  obtain ⟨ex, x, n2', ⟨y0, y1, y2⟩, hc, hz0, hz1, hz2, hex, hm0⟩ := A_cell (D := D) (a0 := xs (m + 1)) (a1 := xs (m + 2)) (n2 := n2) (rp := rp) (mn := mn) (ml := ml) h (jY mf mg mn mb ml (jOut fo)) (z0, z1, nn, xs)
  obtain ⟨mf', mn', hm, hth, hR⟩ := hm0 (f, g, n2', p, pa, s, sa, sw, rp) (jOut fo) (y0, y1, nn, xs)
  dsimp only at hz0 hz1 hz2
  subst hz2
  have hj : ∃ fo' : Nat → Int64, jcatch (.ref 118) (K_c_cell D (xs (m + 1)) (xs (m + 2)) f g n2 p pa s sa sw rp (jY mf mg mn mb ml (jOut fo)) (z0, z1, nn, xs)) = some (some (.int (Int32.ofNat ex)), (jX f g n2' p pa s sa sw rp (jY mf mg mn mb ml (jOut fo')), (y0, y1, nn, xs))) ∧ (ex = 0 → fo' 0 = x.toInt64) := by
    rw [hc]
    by_cases h0 : ex = 0
    · rw [if_pos h0, h0]
      exact ⟨jup fo 0 x.toInt64, rfl, fun _ => rfl⟩
    · rw [if_neg h0]
      exact ⟨fo, rfl, fun e => absurd e h0⟩
  obtain ⟨fo', hj, hfo⟩ := hj
  obtain ⟨mf2, mn2, hm2, hth2, hR2⟩ := hm0 (f, g, n2', p, pa, s, sa, sw, rp) (jOut fo') (y0, y1, nn, xs)
  generalize hv : (if ex = 0 then x else 0) = v at hm2
  refine ⟨some (.int (Int32.ofNat ex)), some (.int v), f, g, n2', p, pa, s, sa, sw, rp, mf2, mg, mn2, mb, ml, fo', y0, y1, ?_, hR2, by omega, by omega⟩
  refine (jev_blk 1 (pc' := 134) (L' := LW m d5 d6) (S' := [.ref 0]) (h' := (jX f g n2 p pa s sa sw rp (jY mf mg mn mb ml (jOut fo)), (z0, z1, nn, xs))) rfl).trans ?_
  refine (lw_ld (k := 1) (kk := 1) (pc := 134) (pc1 := 138) (pc2 := 139) rfl rfl (fun _ => rfl) hl1 hn).trans ?_
  refine (lw_ld (k := 2) (kk := 2) (pc := 139) (pc1 := 143) (pc2 := 144) rfl rfl (fun _ => rfl) hl2 hn).trans ?_
  refine (jev_blk 1 (pc' := 145) (L' := LW m d5 d6) (S' := [.ref 118, .int (xs (m + 2)), .int (xs (m + 1)), .ref 0]) (h' := (jX f g n2 p pa s sa sw rp (jY mf mg mn mb ml (jOut fo)), (z0, z1, nn, xs))) rfl).trans ?_
  rw [lw_cat, hj]
  refine (jev_blk 2 (pc' := 148) (L' := LW m (some (.int (Int32.ofNat ex))) d6) (S' := [.ref 79]) (h' := (jX f g n2' p pa s sa sw rp (jY mf mg mn mb ml (jOut fo')), (y0, y1, nn, xs))) rfl).trans ?_
  refine (lw_ld (k := 1) (kk := 1) (pc := 148) (pc1 := 152) (pc2 := 153) rfl rfl (fun _ => rfl) hl1 hn).trans ?_
  refine (lw_ld (k := 2) (kk := 2) (pc := 153) (pc1 := 157) (pc2 := 158) rfl rfl (fun _ => rfl) hl2 hn).trans ?_
  refine (lw_call (nx := 159) (rest := []) hm2 (jev_callb rfl)).trans ?_
  refine (jev_blk 2 (pc' := 161) (L' := LW m (some (.int (Int32.ofNat ex))) (some (.int v))) (S' := [.ref 79]) (h' := (jX f g n2' p pa s sa sw rp (jY mf2 mg mn2 mb ml (jOut fo')), (y0, y1, nn, xs))) rfl).trans ?_
  refine (lw_call (nx := 162) (rest := []) (E_m_thrown (D := D) (cx := (f, g, n2', p, pa, s, sa, sw, rp)) (f := mf2) (g := mg) (n := mn2) (b := mb) (l := ml) (t := jOut fo') (z := (y0, y1, nn, xs))) (jev_callb rfl)).trans ?_
  refine (jev_blk 2 (pc' := if mf2 0 = Int32.ofNat ex then 166 else 164) (L' := LW m (some (.int (Int32.ofNat ex))) (some (.int v))) (S' := []) (h' := (jX f g n2' p pa s sa sw rp (jY mf2 mg mn2 mb ml (jOut fo')), (y0, y1, nn, xs))) rfl).trans ?_
  rw [if_pos hth2]
  refine (jev_blk 2 (pc' := if Int32.ofNat ex = 0 then 168 else 177) (L' := LW m (some (.int (Int32.ofNat ex))) (some (.int v))) (S' := []) (h' := (jX f g n2' p pa s sa sw rp (jY mf2 mg mn2 mb ml (jOut fo')), (y0, y1, nn, xs))) rfl).trans ?_
  have hend : jev D 245 177 (LW m (some (.int (Int32.ofNat ex))) (some (.int v))) [] (jX f g n2' p pa s sa sw rp (jY mf2 mg mn2 mb ml (jOut fo')), (y0, y1, nn, xs)) = jev D 245 926 (LW m (some (.int (Int32.ofNat ex))) (some (.int v))) [] (jX f g n2' p pa s sa sw rp (jY mf2 mg mn2 mb ml (jOut fo')), (y0, y1, nn, xs)) := jev_blk 1 rfl
  by_cases h0 : ex = 0
  · have hv2 : v = x := by rw [← hv, if_pos h0]
    rw [if_pos (show Int32.ofNat ex = 0 by rw [h0]; rfl)]
    refine (jev_blk 2 (pc' := 170) (L' := LW m (some (.int (Int32.ofNat ex))) (some (.int v))) (S' := [.int 0, .ref 118]) (h' := (jX f g n2' p pa s sa sw rp (jY mf2 mg mn2 mb ml (jOut fo')), (y0, y1, nn, xs))) rfl).trans ?_
    refine (jev_grd (q := jout (0 : Int32) 1) (pc' := 171) (L' := LW m (some (.int (Int32.ofNat ex))) (some (.int v))) (S' := [.long (fo' 0)]) (h' := (jX f g n2' p pa s sa sw rp (jY mf2 mg mn2 mb ml (jOut fo')), (y0, y1, nn, xs))) rfl).trans ?_
    rw [if_neg (show ¬ jout (0 : Int32) 1 by decide)]
    refine (jev_blk 4 (pc' := if lg_cmp (fo' 0) v.toInt64 = 0 then 177 else 175) (L' := LW m (some (.int (Int32.ofNat ex))) (some (.int v))) (S' := []) (h' := (jX f g n2' p pa s sa sw rp (jY mf2 mg mn2 mb ml (jOut fo')), (y0, y1, nn, xs))) rfl).trans ?_
    rw [hfo h0, hv2, if_pos lw_cmp, ← hv2]
    exact hend
  · rw [if_neg (show ¬ Int32.ofNat ex = 0 by
      intro e
      have h12 : ex = 1 ∨ ex = 2 := by omega
      rcases h12 with h1 | h1 <;> (rw [h1] at e; revert e; decide))]
    exact hend
