-- THE LAW: its cases (printed by genlaw.py)
set_option maxRecDepth 20000 in
set_option maxHeartbeats 2000000 in
theorem W_0 {D m z0 z1 nn : Nat} {xs : Nat → Int32} {d5 d6 : Option Value} {fo : Nat → Int64} {f : Nat → Int32} {g : Nat → Nat → Int32} {n2 : Nat → Nat → Int64} {p : Nat → Nat → Int32} {pa : Nat → Nat → Nat → Int32} {s : Nat → Nat → Int32} {sa : Nat → Nat → Nat → Int32} {sw : Bool} {rp : Value} {mf : Nat → Int32} {mg : Nat → Nat → Int32} {mn : Nat → Nat → Int64} {mb : Nat → Nat → Int32} {ml : Nat → Int64} (hD : 119 ≤ D) (hl : m + 6 ≤ nn) (hn : nn < 2147483648) (h : RR f g p pa s sa sw mf mg mb) : jWo D m z0 z1 nn xs (jev D 245 25 (LW m d5 d6) [] (jX f g n2 p pa s sa sw rp (jY mf mg mn mb ml (jOut fo)), (z0, z1, nn, xs))) := by
  have hl1 : m + 1 < nn := by omega
  have hl2 : m + 2 < nn := by omega
  have hl3 : m + 3 < nn := by omega
  have hl4 : m + 4 < nn := by omega
  have hl5 : m + 5 < nn := by omega
  obtain ⟨r, f', g', n2', p', pa', s', sa', sw', rp', hc, hm0⟩ := A_feed (D := D) (a0 := xs (m + 1)) (a1 := xs (m + 2)) (a2 := xs (m + 3)) (a3 := xs (m + 4)) (a4 := xs (m + 5)) (n2 := n2) (rp := rp) (mn := mn) (ml := ml)  h (jY mf mg mn mb ml (jOut fo)) (z0, z1, nn, xs)
  obtain ⟨mf', mg', mn', mb', ml', hm, hR⟩ := hm0 (f', g', n2', p', pa', s', sa', sw', rp') (jOut fo) (z0, z1, nn, xs)
  refine ⟨d5, d6, f', g', n2', p', pa', s', sa', sw', rp', mf', mg', mn', mb', ml', fo, z0, z1, ?_, hR, by omega, by omega⟩
  refine (jev_blk 1 (pc' := 26) (L' := LW m d5 d6) (S' := [.ref 0]) (h' := (jX f g n2 p pa s sa sw rp (jY mf mg mn mb ml (jOut fo)), (z0, z1, nn, xs))) rfl).trans ?_
  refine (lw_ld (k := 1) (kk := 1) (pc := 26) (pc1 := 30) (pc2 := 31) rfl rfl (fun _ => rfl) hl1 hn).trans ?_
  refine (lw_ld (k := 2) (kk := 2) (pc := 31) (pc1 := 35) (pc2 := 36) rfl rfl (fun _ => rfl) hl2 hn).trans ?_
  refine (lw_ld (k := 3) (kk := 3) (pc := 36) (pc1 := 40) (pc2 := 41) rfl rfl (fun _ => rfl) hl3 hn).trans ?_
  refine (lw_ld (k := 4) (kk := 4) (pc := 41) (pc1 := 45) (pc2 := 46) rfl rfl (fun _ => rfl) hl4 hn).trans ?_
  refine (lw_ld (k := 5) (kk := 5) (pc := 46) (pc1 := 50) (pc2 := 51) rfl rfl (fun _ => rfl) hl5 hn).trans ?_
  refine (lw_call (nx := 52) (rest := []) hc (jev_callb rfl)).trans ?_
  refine (jev_blk 1 (pc' := 53) (L' := LW m d5 d6) (S' := [.ref 79, .int r]) (h' := (jX f' g' n2' p' pa' s' sa' sw' rp' (jY mf mg mn mb ml (jOut fo)), (z0, z1, nn, xs))) rfl).trans ?_
  refine (lw_ld (k := 1) (kk := 1) (pc := 53) (pc1 := 57) (pc2 := 58) rfl rfl (fun _ => rfl) hl1 hn).trans ?_
  refine (lw_ld (k := 2) (kk := 2) (pc := 58) (pc1 := 62) (pc2 := 63) rfl rfl (fun _ => rfl) hl2 hn).trans ?_
  refine (lw_ld (k := 3) (kk := 3) (pc := 63) (pc1 := 67) (pc2 := 68) rfl rfl (fun _ => rfl) hl3 hn).trans ?_
  refine (lw_ld (k := 4) (kk := 4) (pc := 68) (pc1 := 72) (pc2 := 73) rfl rfl (fun _ => rfl) hl4 hn).trans ?_
  refine (lw_ld (k := 5) (kk := 5) (pc := 73) (pc1 := 77) (pc2 := 78) rfl rfl (fun _ => rfl) hl5 hn).trans ?_
  refine (lw_call (nx := 79) (rest := [.int r]) hm (jev_callb rfl)).trans ?_
  refine (jev_blk 1 (pc' := if r = r then 926 else 80) (L' := LW m d5 d6) (S' := []) (h' := (jX f' g' n2' p' pa' s' sa' sw' rp' (jY mf' mg' mn' mb' ml' (jOut fo)), (z0, z1, nn, xs))) rfl).trans ?_
  rw [if_pos rfl]
set_option maxRecDepth 20000 in
set_option maxHeartbeats 2000000 in
theorem W_1 {D m z0 z1 nn : Nat} {xs : Nat → Int32} {d5 d6 : Option Value} {fo : Nat → Int64} {f : Nat → Int32} {g : Nat → Nat → Int32} {n2 : Nat → Nat → Int64} {p : Nat → Nat → Int32} {pa : Nat → Nat → Nat → Int32} {s : Nat → Nat → Int32} {sa : Nat → Nat → Nat → Int32} {sw : Bool} {rp : Value} {mf : Nat → Int32} {mg : Nat → Nat → Int32} {mn : Nat → Nat → Int64} {mb : Nat → Nat → Int32} {ml : Nat → Int64} (hD : 119 ≤ D) (hl : m + 6 ≤ nn) (hn : nn < 2147483648) (h : RR f g p pa s sa sw mf mg mb) : jWo D m z0 z1 nn xs (jev D 245 82 (LW m d5 d6) [] (jX f g n2 p pa s sa sw rp (jY mf mg mn mb ml (jOut fo)), (z0, z1, nn, xs))) := by
  have hl1 : m + 1 < nn := by omega
  obtain ⟨r, f', g', n2', p', pa', s', sa', sw', rp', hc, hm0⟩ := A_text (D := D) (a := xs (m + 1)) (n2 := n2) (rp := rp) (mn := mn) (ml := ml) hD h (jY mf mg mn mb ml (jOut fo)) (z0, z1, nn, xs)
  obtain ⟨mf', mg', mn', mb', ml', hm, hR⟩ := hm0 (f', g', n2', p', pa', s', sa', sw', rp') (jOut fo) (z0, z1, nn, xs)
  refine ⟨d5, d6, f', g', n2', p', pa', s', sa', sw', rp', mf', mg', mn', mb', ml', fo, z0, z1, ?_, hR, by omega, by omega⟩
  refine (jev_blk 1 (pc' := 83) (L' := LW m d5 d6) (S' := [.ref 0]) (h' := (jX f g n2 p pa s sa sw rp (jY mf mg mn mb ml (jOut fo)), (z0, z1, nn, xs))) rfl).trans ?_
  refine (lw_ld (k := 1) (kk := 1) (pc := 83) (pc1 := 87) (pc2 := 88) rfl rfl (fun _ => rfl) hl1 hn).trans ?_
  refine (lw_call (nx := 89) (rest := []) hc (jev_callb rfl)).trans ?_
  refine (jev_blk 1 (pc' := 90) (L' := LW m d5 d6) (S' := [.ref 79, .int r]) (h' := (jX f' g' n2' p' pa' s' sa' sw' rp' (jY mf mg mn mb ml (jOut fo)), (z0, z1, nn, xs))) rfl).trans ?_
  refine (lw_ld (k := 1) (kk := 1) (pc := 90) (pc1 := 94) (pc2 := 95) rfl rfl (fun _ => rfl) hl1 hn).trans ?_
  refine (lw_call (nx := 96) (rest := [.int r]) hm (jev_callb rfl)).trans ?_
  refine (jev_blk 1 (pc' := if r = r then 926 else 97) (L' := LW m d5 d6) (S' := []) (h' := (jX f' g' n2' p' pa' s' sa' sw' rp' (jY mf' mg' mn' mb' ml' (jOut fo)), (z0, z1, nn, xs))) rfl).trans ?_
  rw [if_pos rfl]
set_option maxRecDepth 20000 in
set_option maxHeartbeats 2000000 in
theorem W_2 {D m z0 z1 nn : Nat} {xs : Nat → Int32} {d5 d6 : Option Value} {fo : Nat → Int64} {f : Nat → Int32} {g : Nat → Nat → Int32} {n2 : Nat → Nat → Int64} {p : Nat → Nat → Int32} {pa : Nat → Nat → Nat → Int32} {s : Nat → Nat → Int32} {sa : Nat → Nat → Nat → Int32} {sw : Bool} {rp : Value} {mf : Nat → Int32} {mg : Nat → Nat → Int32} {mn : Nat → Nat → Int64} {mb : Nat → Nat → Int32} {ml : Nat → Int64} (hD : 119 ≤ D) (hl : m + 6 ≤ nn) (hn : nn < 2147483648) (h : RR f g p pa s sa sw mf mg mb) : jWo D m z0 z1 nn xs (jev D 245 99 (LW m d5 d6) [] (jX f g n2 p pa s sa sw rp (jY mf mg mn mb ml (jOut fo)), (z0, z1, nn, xs))) := by
  have hl1 : m + 1 < nn := by omega
  obtain ⟨r, f', g', n2', p', pa', s', sa', sw', rp', hc, hm0⟩ := A_fault (D := D) (a := xs (m + 1)) (n2 := n2) (rp := rp) (mn := mn) (ml := ml)  h (jY mf mg mn mb ml (jOut fo)) (z0, z1, nn, xs)
  obtain ⟨mf', mg', mn', mb', ml', hm, hR⟩ := hm0 (f', g', n2', p', pa', s', sa', sw', rp') (jOut fo) (z0, z1, nn, xs)
  refine ⟨d5, d6, f', g', n2', p', pa', s', sa', sw', rp', mf', mg', mn', mb', ml', fo, z0, z1, ?_, hR, by omega, by omega⟩
  refine (jev_blk 1 (pc' := 100) (L' := LW m d5 d6) (S' := [.ref 0]) (h' := (jX f g n2 p pa s sa sw rp (jY mf mg mn mb ml (jOut fo)), (z0, z1, nn, xs))) rfl).trans ?_
  refine (lw_ld (k := 1) (kk := 1) (pc := 100) (pc1 := 104) (pc2 := 105) rfl rfl (fun _ => rfl) hl1 hn).trans ?_
  refine (lw_call (nx := 106) (rest := []) hc (jev_callb rfl)).trans ?_
  refine (jev_blk 1 (pc' := 107) (L' := LW m d5 d6) (S' := [.ref 79, .int r]) (h' := (jX f' g' n2' p' pa' s' sa' sw' rp' (jY mf mg mn mb ml (jOut fo)), (z0, z1, nn, xs))) rfl).trans ?_
  refine (lw_ld (k := 1) (kk := 1) (pc := 107) (pc1 := 111) (pc2 := 112) rfl rfl (fun _ => rfl) hl1 hn).trans ?_
  refine (lw_call (nx := 113) (rest := [.int r]) hm (jev_callb rfl)).trans ?_
  refine (jev_blk 1 (pc' := if r = r then 926 else 114) (L' := LW m d5 d6) (S' := []) (h' := (jX f' g' n2' p' pa' s' sa' sw' rp' (jY mf' mg' mn' mb' ml' (jOut fo)), (z0, z1, nn, xs))) rfl).trans ?_
  rw [if_pos rfl]
set_option maxRecDepth 20000 in
set_option maxHeartbeats 2000000 in
theorem W_3 {D m z0 z1 nn : Nat} {xs : Nat → Int32} {d5 d6 : Option Value} {fo : Nat → Int64} {f : Nat → Int32} {g : Nat → Nat → Int32} {n2 : Nat → Nat → Int64} {p : Nat → Nat → Int32} {pa : Nat → Nat → Nat → Int32} {s : Nat → Nat → Int32} {sa : Nat → Nat → Nat → Int32} {sw : Bool} {rp : Value} {mf : Nat → Int32} {mg : Nat → Nat → Int32} {mn : Nat → Nat → Int64} {mb : Nat → Nat → Int32} {ml : Nat → Int64} (hD : 119 ≤ D) (hl : m + 6 ≤ nn) (hn : nn < 2147483648) (h : RR f g p pa s sa sw mf mg mb) : jWo D m z0 z1 nn xs (jev D 245 116 (LW m d5 d6) [] (jX f g n2 p pa s sa sw rp (jY mf mg mn mb ml (jOut fo)), (z0, z1, nn, xs))) := by
  have hl1 : m + 1 < nn := by omega
  obtain ⟨r, f', g', n2', p', pa', s', sa', sw', rp', hc, hm0⟩ := A_named (D := D) (a := xs (m + 1)) (n2 := n2) (rp := rp) (mn := mn) (ml := ml)  h (jY mf mg mn mb ml (jOut fo)) (z0, z1, nn, xs)
  obtain ⟨mf', mg', mn', mb', ml', hm, hR⟩ := hm0 (f', g', n2', p', pa', s', sa', sw', rp') (jOut fo) (z0, z1, nn, xs)
  refine ⟨d5, d6, f', g', n2', p', pa', s', sa', sw', rp', mf', mg', mn', mb', ml', fo, z0, z1, ?_, hR, by omega, by omega⟩
  refine (jev_blk 1 (pc' := 117) (L' := LW m d5 d6) (S' := [.ref 0]) (h' := (jX f g n2 p pa s sa sw rp (jY mf mg mn mb ml (jOut fo)), (z0, z1, nn, xs))) rfl).trans ?_
  refine (lw_ld (k := 1) (kk := 1) (pc := 117) (pc1 := 121) (pc2 := 122) rfl rfl (fun _ => rfl) hl1 hn).trans ?_
  refine (lw_call (nx := 123) (rest := []) hc (jev_callb rfl)).trans ?_
  refine (jev_blk 1 (pc' := 124) (L' := LW m d5 d6) (S' := [.ref 79, .int r]) (h' := (jX f' g' n2' p' pa' s' sa' sw' rp' (jY mf mg mn mb ml (jOut fo)), (z0, z1, nn, xs))) rfl).trans ?_
  refine (lw_ld (k := 1) (kk := 1) (pc := 124) (pc1 := 128) (pc2 := 129) rfl rfl (fun _ => rfl) hl1 hn).trans ?_
  refine (lw_call (nx := 130) (rest := [.int r]) hm (jev_callb rfl)).trans ?_
  refine (jev_blk 1 (pc' := if r = r then 926 else 131) (L' := LW m d5 d6) (S' := []) (h' := (jX f' g' n2' p' pa' s' sa' sw' rp' (jY mf' mg' mn' mb' ml' (jOut fo)), (z0, z1, nn, xs))) rfl).trans ?_
  rw [if_pos rfl]
set_option maxRecDepth 20000 in
set_option maxHeartbeats 2000000 in
theorem W_5 {D m z0 z1 nn : Nat} {xs : Nat → Int32} {d5 d6 : Option Value} {fo : Nat → Int64} {f : Nat → Int32} {g : Nat → Nat → Int32} {n2 : Nat → Nat → Int64} {p : Nat → Nat → Int32} {pa : Nat → Nat → Nat → Int32} {s : Nat → Nat → Int32} {sa : Nat → Nat → Nat → Int32} {sw : Bool} {rp : Value} {mf : Nat → Int32} {mg : Nat → Nat → Int32} {mn : Nat → Nat → Int64} {mb : Nat → Nat → Int32} {ml : Nat → Int64} (hD : 119 ≤ D) (hl : m + 6 ≤ nn) (hn : nn < 2147483648) (h : RR f g p pa s sa sw mf mg mb) : jWo D m z0 z1 nn xs (jev D 245 178 (LW m d5 d6) [] (jX f g n2 p pa s sa sw rp (jY mf mg mn mb ml (jOut fo)), (z0, z1, nn, xs))) := by
  have hl1 : m + 1 < nn := by omega
  have hl2 : m + 2 < nn := by omega
  obtain ⟨r, f', g', n2', p', pa', s', sa', sw', rp', hc, hm0⟩ := A_scare (D := D) (a := xs (m + 1)) (w := xs (m + 2)) (n2 := n2) (rp := rp) (mn := mn) (ml := ml)  h (jY mf mg mn mb ml (jOut fo)) (z0, z1, nn, xs)
  obtain ⟨mf', mg', mn', mb', ml', hm, hR⟩ := hm0 (f', g', n2', p', pa', s', sa', sw', rp') (jOut fo) (z0, z1, nn, xs)
  refine ⟨d5, d6, f', g', n2', p', pa', s', sa', sw', rp', mf', mg', mn', mb', ml', fo, z0, z1, ?_, hR, by omega, by omega⟩
  refine (jev_blk 1 (pc' := 179) (L' := LW m d5 d6) (S' := [.ref 0]) (h' := (jX f g n2 p pa s sa sw rp (jY mf mg mn mb ml (jOut fo)), (z0, z1, nn, xs))) rfl).trans ?_
  refine (lw_ld (k := 1) (kk := 1) (pc := 179) (pc1 := 183) (pc2 := 184) rfl rfl (fun _ => rfl) hl1 hn).trans ?_
  refine (lw_ld (k := 2) (kk := 2) (pc := 184) (pc1 := 188) (pc2 := 189) rfl rfl (fun _ => rfl) hl2 hn).trans ?_
  refine (lw_call (nx := 190) (rest := []) hc (jev_callb rfl)).trans ?_
  refine (jev_blk 1 (pc' := 191) (L' := LW m d5 d6) (S' := [.ref 79, .int r]) (h' := (jX f' g' n2' p' pa' s' sa' sw' rp' (jY mf mg mn mb ml (jOut fo)), (z0, z1, nn, xs))) rfl).trans ?_
  refine (lw_ld (k := 1) (kk := 1) (pc := 191) (pc1 := 195) (pc2 := 196) rfl rfl (fun _ => rfl) hl1 hn).trans ?_
  refine (lw_ld (k := 2) (kk := 2) (pc := 196) (pc1 := 200) (pc2 := 201) rfl rfl (fun _ => rfl) hl2 hn).trans ?_
  refine (lw_call (nx := 202) (rest := [.int r]) hm (jev_callb rfl)).trans ?_
  refine (jev_blk 1 (pc' := if r = r then 926 else 203) (L' := LW m d5 d6) (S' := []) (h' := (jX f' g' n2' p' pa' s' sa' sw' rp' (jY mf' mg' mn' mb' ml' (jOut fo)), (z0, z1, nn, xs))) rfl).trans ?_
  rw [if_pos rfl]
set_option maxRecDepth 20000 in
set_option maxHeartbeats 2000000 in
theorem W_6 {D m z0 z1 nn : Nat} {xs : Nat → Int32} {d5 d6 : Option Value} {fo : Nat → Int64} {f : Nat → Int32} {g : Nat → Nat → Int32} {n2 : Nat → Nat → Int64} {p : Nat → Nat → Int32} {pa : Nat → Nat → Nat → Int32} {s : Nat → Nat → Int32} {sa : Nat → Nat → Nat → Int32} {sw : Bool} {rp : Value} {mf : Nat → Int32} {mg : Nat → Nat → Int32} {mn : Nat → Nat → Int64} {mb : Nat → Nat → Int32} {ml : Nat → Int64} (hD : 119 ≤ D) (hl : m + 6 ≤ nn) (hn : nn < 2147483648) (h : RR f g p pa s sa sw mf mg mb) : jWo D m z0 z1 nn xs (jev D 245 205 (LW m d5 d6) [] (jX f g n2 p pa s sa sw rp (jY mf mg mn mb ml (jOut fo)), (z0, z1, nn, xs))) := by
  have hl1 : m + 1 < nn := by omega
  obtain ⟨r, f', g', n2', p', pa', s', sa', sw', rp', hc, hm0⟩ := A_wind (D := D) (a := xs (m + 1)) (n2 := n2) (rp := rp) (mn := mn) (ml := ml)  h (jY mf mg mn mb ml (jOut fo)) (z0, z1, nn, xs)
  obtain ⟨mf', mg', mn', mb', ml', hm, hR⟩ := hm0 (f', g', n2', p', pa', s', sa', sw', rp') (jOut fo) (z0, z1, nn, xs)
  refine ⟨d5, d6, f', g', n2', p', pa', s', sa', sw', rp', mf', mg', mn', mb', ml', fo, z0, z1, ?_, hR, by omega, by omega⟩
  refine (jev_blk 1 (pc' := 206) (L' := LW m d5 d6) (S' := [.ref 0]) (h' := (jX f g n2 p pa s sa sw rp (jY mf mg mn mb ml (jOut fo)), (z0, z1, nn, xs))) rfl).trans ?_
  refine (lw_ld (k := 1) (kk := 1) (pc := 206) (pc1 := 210) (pc2 := 211) rfl rfl (fun _ => rfl) hl1 hn).trans ?_
  refine (lw_call (nx := 212) (rest := []) hc (jev_callb rfl)).trans ?_
  refine (jev_blk 1 (pc' := 213) (L' := LW m d5 d6) (S' := [.ref 79, .int r]) (h' := (jX f' g' n2' p' pa' s' sa' sw' rp' (jY mf mg mn mb ml (jOut fo)), (z0, z1, nn, xs))) rfl).trans ?_
  refine (lw_ld (k := 1) (kk := 1) (pc := 213) (pc1 := 217) (pc2 := 218) rfl rfl (fun _ => rfl) hl1 hn).trans ?_
  refine (lw_call (nx := 219) (rest := [.int r]) hm (jev_callb rfl)).trans ?_
  refine (jev_blk 1 (pc' := if r = r then 926 else 220) (L' := LW m d5 d6) (S' := []) (h' := (jX f' g' n2' p' pa' s' sa' sw' rp' (jY mf' mg' mn' mb' ml' (jOut fo)), (z0, z1, nn, xs))) rfl).trans ?_
  rw [if_pos rfl]
set_option maxRecDepth 20000 in
set_option maxHeartbeats 2000000 in
theorem W_7 {D m z0 z1 nn : Nat} {xs : Nat → Int32} {d5 d6 : Option Value} {fo : Nat → Int64} {f : Nat → Int32} {g : Nat → Nat → Int32} {n2 : Nat → Nat → Int64} {p : Nat → Nat → Int32} {pa : Nat → Nat → Nat → Int32} {s : Nat → Nat → Int32} {sa : Nat → Nat → Nat → Int32} {sw : Bool} {rp : Value} {mf : Nat → Int32} {mg : Nat → Nat → Int32} {mn : Nat → Nat → Int64} {mb : Nat → Nat → Int32} {ml : Nat → Int64} (hD : 119 ≤ D) (hl : m + 6 ≤ nn) (hn : nn < 2147483648) (h : RR f g p pa s sa sw mf mg mb) : jWo D m z0 z1 nn xs (jev D 245 222 (LW m d5 d6) [] (jX f g n2 p pa s sa sw rp (jY mf mg mn mb ml (jOut fo)), (z0, z1, nn, xs))) := by
  have hl1 : m + 1 < nn := by omega
  have hl2 : m + 2 < nn := by omega
  obtain ⟨r, f', g', n2', p', pa', s', sa', sw', rp', hc, hm0⟩ := A_sees (D := D) (a := xs (m + 1)) (c := xs (m + 2)) (n2 := n2) (rp := rp) (mn := mn) (ml := ml)  h (jY mf mg mn mb ml (jOut fo)) (z0, z1, nn, xs)
  obtain ⟨mf', mg', mn', mb', ml', hm, hR⟩ := hm0 (f', g', n2', p', pa', s', sa', sw', rp') (jOut fo) (z0, z1, nn, xs)
  refine ⟨d5, d6, f', g', n2', p', pa', s', sa', sw', rp', mf', mg', mn', mb', ml', fo, z0, z1, ?_, hR, by omega, by omega⟩
  refine (jev_blk 1 (pc' := 223) (L' := LW m d5 d6) (S' := [.ref 0]) (h' := (jX f g n2 p pa s sa sw rp (jY mf mg mn mb ml (jOut fo)), (z0, z1, nn, xs))) rfl).trans ?_
  refine (lw_ld (k := 1) (kk := 1) (pc := 223) (pc1 := 227) (pc2 := 228) rfl rfl (fun _ => rfl) hl1 hn).trans ?_
  refine (lw_ld (k := 2) (kk := 2) (pc := 228) (pc1 := 232) (pc2 := 233) rfl rfl (fun _ => rfl) hl2 hn).trans ?_
  refine (lw_call (nx := 234) (rest := []) hc (jev_callb rfl)).trans ?_
  refine (jev_blk 1 (pc' := 235) (L' := LW m d5 d6) (S' := [.ref 79, .int r]) (h' := (jX f' g' n2' p' pa' s' sa' sw' rp' (jY mf mg mn mb ml (jOut fo)), (z0, z1, nn, xs))) rfl).trans ?_
  refine (lw_ld (k := 1) (kk := 1) (pc := 235) (pc1 := 239) (pc2 := 240) rfl rfl (fun _ => rfl) hl1 hn).trans ?_
  refine (lw_ld (k := 2) (kk := 2) (pc := 240) (pc1 := 244) (pc2 := 245) rfl rfl (fun _ => rfl) hl2 hn).trans ?_
  refine (lw_call (nx := 246) (rest := [.int r]) hm (jev_callb rfl)).trans ?_
  refine (jev_blk 1 (pc' := if r = r then 926 else 247) (L' := LW m d5 d6) (S' := []) (h' := (jX f' g' n2' p' pa' s' sa' sw' rp' (jY mf' mg' mn' mb' ml' (jOut fo)), (z0, z1, nn, xs))) rfl).trans ?_
  rw [if_pos rfl]
set_option maxRecDepth 20000 in
set_option maxHeartbeats 2000000 in
theorem W_8 {D m z0 z1 nn : Nat} {xs : Nat → Int32} {d5 d6 : Option Value} {fo : Nat → Int64} {f : Nat → Int32} {g : Nat → Nat → Int32} {n2 : Nat → Nat → Int64} {p : Nat → Nat → Int32} {pa : Nat → Nat → Nat → Int32} {s : Nat → Nat → Int32} {sa : Nat → Nat → Nat → Int32} {sw : Bool} {rp : Value} {mf : Nat → Int32} {mg : Nat → Nat → Int32} {mn : Nat → Nat → Int64} {mb : Nat → Nat → Int32} {ml : Nat → Int64} (hD : 119 ≤ D) (hl : m + 6 ≤ nn) (hn : nn < 2147483648) (h : RR f g p pa s sa sw mf mg mb) : jWo D m z0 z1 nn xs (jev D 245 249 (LW m d5 d6) [] (jX f g n2 p pa s sa sw rp (jY mf mg mn mb ml (jOut fo)), (z0, z1, nn, xs))) := by
  have hl1 : m + 1 < nn := by omega
  have hl2 : m + 2 < nn := by omega
  have hl3 : m + 3 < nn := by omega
  obtain ⟨r, f', g', n2', p', pa', s', sa', sw', rp', hc, hm0⟩ := A_law (D := D) (a := xs (m + 1)) (x := xs (m + 2)) (y := xs (m + 3)) (n2 := n2) (rp := rp) (mn := mn) (ml := ml)  h (jY mf mg mn mb ml (jOut fo)) (z0, z1, nn, xs)
  obtain ⟨mf', mg', mn', mb', ml', hm, hR⟩ := hm0 (f', g', n2', p', pa', s', sa', sw', rp') (jOut fo) (z0, z1, nn, xs)
  refine ⟨d5, d6, f', g', n2', p', pa', s', sa', sw', rp', mf', mg', mn', mb', ml', fo, z0, z1, ?_, hR, by omega, by omega⟩
  refine (jev_blk 1 (pc' := 250) (L' := LW m d5 d6) (S' := [.ref 0]) (h' := (jX f g n2 p pa s sa sw rp (jY mf mg mn mb ml (jOut fo)), (z0, z1, nn, xs))) rfl).trans ?_
  refine (lw_ld (k := 1) (kk := 1) (pc := 250) (pc1 := 254) (pc2 := 255) rfl rfl (fun _ => rfl) hl1 hn).trans ?_
  refine (lw_ld (k := 2) (kk := 2) (pc := 255) (pc1 := 259) (pc2 := 260) rfl rfl (fun _ => rfl) hl2 hn).trans ?_
  refine (lw_ld (k := 3) (kk := 3) (pc := 260) (pc1 := 264) (pc2 := 265) rfl rfl (fun _ => rfl) hl3 hn).trans ?_
  refine (lw_call (nx := 266) (rest := []) hc (jev_callb rfl)).trans ?_
  refine (jev_blk 1 (pc' := 267) (L' := LW m d5 d6) (S' := [.ref 79, .long r]) (h' := (jX f' g' n2' p' pa' s' sa' sw' rp' (jY mf mg mn mb ml (jOut fo)), (z0, z1, nn, xs))) rfl).trans ?_
  refine (lw_ld (k := 1) (kk := 1) (pc := 267) (pc1 := 271) (pc2 := 272) rfl rfl (fun _ => rfl) hl1 hn).trans ?_
  refine (lw_ld (k := 2) (kk := 2) (pc := 272) (pc1 := 276) (pc2 := 277) rfl rfl (fun _ => rfl) hl2 hn).trans ?_
  refine (lw_ld (k := 3) (kk := 3) (pc := 277) (pc1 := 281) (pc2 := 282) rfl rfl (fun _ => rfl) hl3 hn).trans ?_
  refine (lw_call (nx := 283) (rest := [.long r]) hm (jev_callb rfl)).trans ?_
  refine (jev_blk 2 (pc' := if lg_cmp r r = 0 then 926 else 285) (L' := LW m d5 d6) (S' := []) (h' := (jX f' g' n2' p' pa' s' sa' sw' rp' (jY mf' mg' mn' mb' ml' (jOut fo)), (z0, z1, nn, xs))) rfl).trans ?_
  rw [if_pos lw_cmp]
set_option maxRecDepth 20000 in
set_option maxHeartbeats 2000000 in
theorem W_9 {D m z0 z1 nn : Nat} {xs : Nat → Int32} {d5 d6 : Option Value} {fo : Nat → Int64} {f : Nat → Int32} {g : Nat → Nat → Int32} {n2 : Nat → Nat → Int64} {p : Nat → Nat → Int32} {pa : Nat → Nat → Nat → Int32} {s : Nat → Nat → Int32} {sa : Nat → Nat → Nat → Int32} {sw : Bool} {rp : Value} {mf : Nat → Int32} {mg : Nat → Nat → Int32} {mn : Nat → Nat → Int64} {mb : Nat → Nat → Int32} {ml : Nat → Int64} (hD : 119 ≤ D) (hl : m + 6 ≤ nn) (hn : nn < 2147483648) (h : RR f g p pa s sa sw mf mg mb) : jWo D m z0 z1 nn xs (jev D 245 287 (LW m d5 d6) [] (jX f g n2 p pa s sa sw rp (jY mf mg mn mb ml (jOut fo)), (z0, z1, nn, xs))) := by
  have hl1 : m + 1 < nn := by omega
  have hl2 : m + 2 < nn := by omega
  have hl3 : m + 3 < nn := by omega
  obtain ⟨r, f', g', n2', p', pa', s', sa', sw', rp', hc, hm0⟩ := A_flap (D := D) (a := xs (m + 1)) (x := xs (m + 2)) (v := jbz (xs (m + 3))) (n2 := n2) (rp := rp) (mn := mn) (ml := ml)  h (jY mf mg mn mb ml (jOut fo)) (z0, z1, nn, xs)
  obtain ⟨mf', mg', mn', mb', ml', hm, hR⟩ := hm0 (f', g', n2', p', pa', s', sa', sw', rp') (jOut fo) (z0, z1, nn, xs)
  refine ⟨d5, d6, f', g', n2', p', pa', s', sa', sw', rp', mf', mg', mn', mb', ml', fo, z0, z1, ?_, hR, by omega, by omega⟩
  refine (jev_blk 1 (pc' := 288) (L' := LW m d5 d6) (S' := [.ref 0]) (h' := (jX f g n2 p pa s sa sw rp (jY mf mg mn mb ml (jOut fo)), (z0, z1, nn, xs))) rfl).trans ?_
  refine (lw_ld (k := 1) (kk := 1) (pc := 288) (pc1 := 292) (pc2 := 293) rfl rfl (fun _ => rfl) hl1 hn).trans ?_
  refine (lw_ld (k := 2) (kk := 2) (pc := 293) (pc1 := 297) (pc2 := 298) rfl rfl (fun _ => rfl) hl2 hn).trans ?_
  refine (lw_ld (k := 3) (kk := 3) (pc := 298) (pc1 := 302) (pc2 := 303) rfl rfl (fun _ => rfl) hl3 hn).trans ?_
  refine (lw_b (pc := 303) (pc1 := 304) (pc2 := 306) (pc3 := 307) rfl rfl rfl).trans ?_
  refine (lw_call (nx := 308) (rest := []) hc (jev_callb rfl)).trans ?_
  refine (jev_blk 1 (pc' := 309) (L' := LW m d5 d6) (S' := [.ref 79, .int r]) (h' := (jX f' g' n2' p' pa' s' sa' sw' rp' (jY mf mg mn mb ml (jOut fo)), (z0, z1, nn, xs))) rfl).trans ?_
  refine (lw_ld (k := 1) (kk := 1) (pc := 309) (pc1 := 313) (pc2 := 314) rfl rfl (fun _ => rfl) hl1 hn).trans ?_
  refine (lw_ld (k := 2) (kk := 2) (pc := 314) (pc1 := 318) (pc2 := 319) rfl rfl (fun _ => rfl) hl2 hn).trans ?_
  refine (lw_ld (k := 3) (kk := 3) (pc := 319) (pc1 := 323) (pc2 := 324) rfl rfl (fun _ => rfl) hl3 hn).trans ?_
  refine (lw_b (pc := 324) (pc1 := 325) (pc2 := 327) (pc3 := 328) rfl rfl rfl).trans ?_
  refine (lw_call (nx := 329) (rest := [.int r]) hm (jev_callb rfl)).trans ?_
  refine (jev_blk 1 (pc' := if r = r then 926 else 330) (L' := LW m d5 d6) (S' := []) (h' := (jX f' g' n2' p' pa' s' sa' sw' rp' (jY mf' mg' mn' mb' ml' (jOut fo)), (z0, z1, nn, xs))) rfl).trans ?_
  rw [if_pos rfl]
set_option maxRecDepth 20000 in
set_option maxHeartbeats 2000000 in
theorem W_10 {D m z0 z1 nn : Nat} {xs : Nat → Int32} {d5 d6 : Option Value} {fo : Nat → Int64} {f : Nat → Int32} {g : Nat → Nat → Int32} {n2 : Nat → Nat → Int64} {p : Nat → Nat → Int32} {pa : Nat → Nat → Nat → Int32} {s : Nat → Nat → Int32} {sa : Nat → Nat → Nat → Int32} {sw : Bool} {rp : Value} {mf : Nat → Int32} {mg : Nat → Nat → Int32} {mn : Nat → Nat → Int64} {mb : Nat → Nat → Int32} {ml : Nat → Int64} (hD : 119 ≤ D) (hl : m + 6 ≤ nn) (hn : nn < 2147483648) (h : RR f g p pa s sa sw mf mg mb) : jWo D m z0 z1 nn xs (jev D 245 332 (LW m d5 d6) [] (jX f g n2 p pa s sa sw rp (jY mf mg mn mb ml (jOut fo)), (z0, z1, nn, xs))) := by
  have hl1 : m + 1 < nn := by omega
  have hl2 : m + 2 < nn := by omega
  obtain ⟨r, f', g', n2', p', pa', s', sa', sw', rp', hc, hm0⟩ := A_strike (D := D) (a := xs (m + 1)) (v := jbz (xs (m + 2))) (n2 := n2) (rp := rp) (mn := mn) (ml := ml)  h (jY mf mg mn mb ml (jOut fo)) (z0, z1, nn, xs)
  obtain ⟨mf', mg', mn', mb', ml', hm, hR⟩ := hm0 (f', g', n2', p', pa', s', sa', sw', rp') (jOut fo) (z0, z1, nn, xs)
  refine ⟨d5, d6, f', g', n2', p', pa', s', sa', sw', rp', mf', mg', mn', mb', ml', fo, z0, z1, ?_, hR, by omega, by omega⟩
  refine (jev_blk 1 (pc' := 333) (L' := LW m d5 d6) (S' := [.ref 0]) (h' := (jX f g n2 p pa s sa sw rp (jY mf mg mn mb ml (jOut fo)), (z0, z1, nn, xs))) rfl).trans ?_
  refine (lw_ld (k := 1) (kk := 1) (pc := 333) (pc1 := 337) (pc2 := 338) rfl rfl (fun _ => rfl) hl1 hn).trans ?_
  refine (lw_ld (k := 2) (kk := 2) (pc := 338) (pc1 := 342) (pc2 := 343) rfl rfl (fun _ => rfl) hl2 hn).trans ?_
  refine (lw_b (pc := 343) (pc1 := 344) (pc2 := 346) (pc3 := 347) rfl rfl rfl).trans ?_
  refine (lw_call (nx := 348) (rest := []) hc (jev_callb rfl)).trans ?_
  refine (jev_blk 1 (pc' := 349) (L' := LW m d5 d6) (S' := [.ref 79, .int r]) (h' := (jX f' g' n2' p' pa' s' sa' sw' rp' (jY mf mg mn mb ml (jOut fo)), (z0, z1, nn, xs))) rfl).trans ?_
  refine (lw_ld (k := 1) (kk := 1) (pc := 349) (pc1 := 353) (pc2 := 354) rfl rfl (fun _ => rfl) hl1 hn).trans ?_
  refine (lw_ld (k := 2) (kk := 2) (pc := 354) (pc1 := 358) (pc2 := 359) rfl rfl (fun _ => rfl) hl2 hn).trans ?_
  refine (lw_b (pc := 359) (pc1 := 360) (pc2 := 362) (pc3 := 363) rfl rfl rfl).trans ?_
  refine (lw_call (nx := 364) (rest := [.int r]) hm (jev_callb rfl)).trans ?_
  refine (jev_blk 1 (pc' := if r = r then 926 else 365) (L' := LW m d5 d6) (S' := []) (h' := (jX f' g' n2' p' pa' s' sa' sw' rp' (jY mf' mg' mn' mb' ml' (jOut fo)), (z0, z1, nn, xs))) rfl).trans ?_
  rw [if_pos rfl]
set_option maxRecDepth 20000 in
set_option maxHeartbeats 2000000 in
theorem W_11 {D m z0 z1 nn : Nat} {xs : Nat → Int32} {d5 d6 : Option Value} {fo : Nat → Int64} {f : Nat → Int32} {g : Nat → Nat → Int32} {n2 : Nat → Nat → Int64} {p : Nat → Nat → Int32} {pa : Nat → Nat → Nat → Int32} {s : Nat → Nat → Int32} {sa : Nat → Nat → Nat → Int32} {sw : Bool} {rp : Value} {mf : Nat → Int32} {mg : Nat → Nat → Int32} {mn : Nat → Nat → Int64} {mb : Nat → Nat → Int32} {ml : Nat → Int64} (hD : 119 ≤ D) (hl : m + 6 ≤ nn) (hn : nn < 2147483648) (h : RR f g p pa s sa sw mf mg mb) : jWo D m z0 z1 nn xs (jev D 245 367 (LW m d5 d6) [] (jX f g n2 p pa s sa sw rp (jY mf mg mn mb ml (jOut fo)), (z0, z1, nn, xs))) := by
  have hl1 : m + 1 < nn := by omega
  have hl2 : m + 2 < nn := by omega
  obtain ⟨r, f', g', n2', p', pa', s', sa', sw', rp', hc, hm0⟩ := A_hat (D := D) (a := xs (m + 1)) (x := xs (m + 2)) (n2 := n2) (rp := rp) (mn := mn) (ml := ml)  h (jY mf mg mn mb ml (jOut fo)) (z0, z1, nn, xs)
  obtain ⟨mf', mg', mn', mb', ml', hm, hR⟩ := hm0 (f', g', n2', p', pa', s', sa', sw', rp') (jOut fo) (z0, z1, nn, xs)
  refine ⟨d5, d6, f', g', n2', p', pa', s', sa', sw', rp', mf', mg', mn', mb', ml', fo, z0, z1, ?_, hR, by omega, by omega⟩
  refine (jev_blk 1 (pc' := 368) (L' := LW m d5 d6) (S' := [.ref 0]) (h' := (jX f g n2 p pa s sa sw rp (jY mf mg mn mb ml (jOut fo)), (z0, z1, nn, xs))) rfl).trans ?_
  refine (lw_ld (k := 1) (kk := 1) (pc := 368) (pc1 := 372) (pc2 := 373) rfl rfl (fun _ => rfl) hl1 hn).trans ?_
  refine (lw_ld (k := 2) (kk := 2) (pc := 373) (pc1 := 377) (pc2 := 378) rfl rfl (fun _ => rfl) hl2 hn).trans ?_
  refine (lw_call (nx := 379) (rest := []) hc (jev_callb rfl)).trans ?_
  refine (jev_blk 1 (pc' := 380) (L' := LW m d5 d6) (S' := [.ref 79, .int r]) (h' := (jX f' g' n2' p' pa' s' sa' sw' rp' (jY mf mg mn mb ml (jOut fo)), (z0, z1, nn, xs))) rfl).trans ?_
  refine (lw_ld (k := 1) (kk := 1) (pc := 380) (pc1 := 384) (pc2 := 385) rfl rfl (fun _ => rfl) hl1 hn).trans ?_
  refine (lw_ld (k := 2) (kk := 2) (pc := 385) (pc1 := 389) (pc2 := 390) rfl rfl (fun _ => rfl) hl2 hn).trans ?_
  refine (lw_call (nx := 391) (rest := [.int r]) hm (jev_callb rfl)).trans ?_
  refine (jev_blk 1 (pc' := if r = r then 926 else 392) (L' := LW m d5 d6) (S' := []) (h' := (jX f' g' n2' p' pa' s' sa' sw' rp' (jY mf' mg' mn' mb' ml' (jOut fo)), (z0, z1, nn, xs))) rfl).trans ?_
  rw [if_pos rfl]
set_option maxRecDepth 20000 in
set_option maxHeartbeats 2000000 in
theorem W_12 {D m z0 z1 nn : Nat} {xs : Nat → Int32} {d5 d6 : Option Value} {fo : Nat → Int64} {f : Nat → Int32} {g : Nat → Nat → Int32} {n2 : Nat → Nat → Int64} {p : Nat → Nat → Int32} {pa : Nat → Nat → Nat → Int32} {s : Nat → Nat → Int32} {sa : Nat → Nat → Nat → Int32} {sw : Bool} {rp : Value} {mf : Nat → Int32} {mg : Nat → Nat → Int32} {mn : Nat → Nat → Int64} {mb : Nat → Nat → Int32} {ml : Nat → Int64} (hD : 119 ≤ D) (hl : m + 6 ≤ nn) (hn : nn < 2147483648) (h : RR f g p pa s sa sw mf mg mb) : jWo D m z0 z1 nn xs (jev D 245 394 (LW m d5 d6) [] (jX f g n2 p pa s sa sw rp (jY mf mg mn mb ml (jOut fo)), (z0, z1, nn, xs))) := by
  have hl1 : m + 1 < nn := by omega
  obtain ⟨r, f', g', n2', p', pa', s', sa', sw', rp', hc, hm0⟩ := A_go (D := D) (a := xs (m + 1)) (n2 := n2) (rp := rp) (mn := mn) (ml := ml)  h (jY mf mg mn mb ml (jOut fo)) (z0, z1, nn, xs)
  obtain ⟨mf', mg', mn', mb', ml', hm, hR⟩ := hm0 (f', g', n2', p', pa', s', sa', sw', rp') (jOut fo) (z0, z1, nn, xs)
  refine ⟨d5, d6, f', g', n2', p', pa', s', sa', sw', rp', mf', mg', mn', mb', ml', fo, z0, z1, ?_, hR, by omega, by omega⟩
  refine (jev_blk 1 (pc' := 395) (L' := LW m d5 d6) (S' := [.ref 0]) (h' := (jX f g n2 p pa s sa sw rp (jY mf mg mn mb ml (jOut fo)), (z0, z1, nn, xs))) rfl).trans ?_
  refine (lw_ld (k := 1) (kk := 1) (pc := 395) (pc1 := 399) (pc2 := 400) rfl rfl (fun _ => rfl) hl1 hn).trans ?_
  refine (lw_call (nx := 401) (rest := []) hc (jev_callb rfl)).trans ?_
  refine (jev_blk 1 (pc' := 402) (L' := LW m d5 d6) (S' := [.ref 79, .int r]) (h' := (jX f' g' n2' p' pa' s' sa' sw' rp' (jY mf mg mn mb ml (jOut fo)), (z0, z1, nn, xs))) rfl).trans ?_
  refine (lw_ld (k := 1) (kk := 1) (pc := 402) (pc1 := 406) (pc2 := 407) rfl rfl (fun _ => rfl) hl1 hn).trans ?_
  refine (lw_call (nx := 408) (rest := [.int r]) hm (jev_callb rfl)).trans ?_
  refine (jev_blk 1 (pc' := if r = r then 926 else 409) (L' := LW m d5 d6) (S' := []) (h' := (jX f' g' n2' p' pa' s' sa' sw' rp' (jY mf' mg' mn' mb' ml' (jOut fo)), (z0, z1, nn, xs))) rfl).trans ?_
  rw [if_pos rfl]
set_option maxRecDepth 20000 in
set_option maxHeartbeats 2000000 in
theorem W_13 {D m z0 z1 nn : Nat} {xs : Nat → Int32} {d5 d6 : Option Value} {fo : Nat → Int64} {f : Nat → Int32} {g : Nat → Nat → Int32} {n2 : Nat → Nat → Int64} {p : Nat → Nat → Int32} {pa : Nat → Nat → Nat → Int32} {s : Nat → Nat → Int32} {sa : Nat → Nat → Nat → Int32} {sw : Bool} {rp : Value} {mf : Nat → Int32} {mg : Nat → Nat → Int32} {mn : Nat → Nat → Int64} {mb : Nat → Nat → Int32} {ml : Nat → Int64} (hD : 119 ≤ D) (hl : m + 6 ≤ nn) (hn : nn < 2147483648) (h : RR f g p pa s sa sw mf mg mb) : jWo D m z0 z1 nn xs (jev D 245 411 (LW m d5 d6) [] (jX f g n2 p pa s sa sw rp (jY mf mg mn mb ml (jOut fo)), (z0, z1, nn, xs))) := by
  have hl1 : m + 1 < nn := by omega
  have hl2 : m + 2 < nn := by omega
  obtain ⟨r, f', g', n2', p', pa', s', sa', sw', rp', hc, hm0⟩ := A_ahead (D := D) (a := xs (m + 1)) (w := xs (m + 2)) (n2 := n2) (rp := rp) (mn := mn) (ml := ml)  h (jY mf mg mn mb ml (jOut fo)) (z0, z1, nn, xs)
  obtain ⟨mf', mg', mn', mb', ml', hm, hR⟩ := hm0 (f', g', n2', p', pa', s', sa', sw', rp') (jOut fo) (z0, z1, nn, xs)
  refine ⟨d5, d6, f', g', n2', p', pa', s', sa', sw', rp', mf', mg', mn', mb', ml', fo, z0, z1, ?_, hR, by omega, by omega⟩
  refine (jev_blk 1 (pc' := 412) (L' := LW m d5 d6) (S' := [.ref 0]) (h' := (jX f g n2 p pa s sa sw rp (jY mf mg mn mb ml (jOut fo)), (z0, z1, nn, xs))) rfl).trans ?_
  refine (lw_ld (k := 1) (kk := 1) (pc := 412) (pc1 := 416) (pc2 := 417) rfl rfl (fun _ => rfl) hl1 hn).trans ?_
  refine (lw_ld (k := 2) (kk := 2) (pc := 417) (pc1 := 421) (pc2 := 422) rfl rfl (fun _ => rfl) hl2 hn).trans ?_
  refine (lw_call (nx := 423) (rest := []) hc (jev_callb rfl)).trans ?_
  refine (jev_blk 1 (pc' := 424) (L' := LW m d5 d6) (S' := [.ref 79, .int r]) (h' := (jX f' g' n2' p' pa' s' sa' sw' rp' (jY mf mg mn mb ml (jOut fo)), (z0, z1, nn, xs))) rfl).trans ?_
  refine (lw_ld (k := 1) (kk := 1) (pc := 424) (pc1 := 428) (pc2 := 429) rfl rfl (fun _ => rfl) hl1 hn).trans ?_
  refine (lw_ld (k := 2) (kk := 2) (pc := 429) (pc1 := 433) (pc2 := 434) rfl rfl (fun _ => rfl) hl2 hn).trans ?_
  refine (lw_call (nx := 435) (rest := [.int r]) hm (jev_callb rfl)).trans ?_
  refine (jev_blk 1 (pc' := if r = r then 926 else 436) (L' := LW m d5 d6) (S' := []) (h' := (jX f' g' n2' p' pa' s' sa' sw' rp' (jY mf' mg' mn' mb' ml' (jOut fo)), (z0, z1, nn, xs))) rfl).trans ?_
  rw [if_pos rfl]
set_option maxRecDepth 20000 in
set_option maxHeartbeats 2000000 in
theorem W_14 {D m z0 z1 nn : Nat} {xs : Nat → Int32} {d5 d6 : Option Value} {fo : Nat → Int64} {f : Nat → Int32} {g : Nat → Nat → Int32} {n2 : Nat → Nat → Int64} {p : Nat → Nat → Int32} {pa : Nat → Nat → Nat → Int32} {s : Nat → Nat → Int32} {sa : Nat → Nat → Nat → Int32} {sw : Bool} {rp : Value} {mf : Nat → Int32} {mg : Nat → Nat → Int32} {mn : Nat → Nat → Int64} {mb : Nat → Nat → Int32} {ml : Nat → Int64} (hD : 119 ≤ D) (hl : m + 6 ≤ nn) (hn : nn < 2147483648) (h : RR f g p pa s sa sw mf mg mb) : jWo D m z0 z1 nn xs (jev D 245 438 (LW m d5 d6) [] (jX f g n2 p pa s sa sw rp (jY mf mg mn mb ml (jOut fo)), (z0, z1, nn, xs))) := by
  have hl1 : m + 1 < nn := by omega
  obtain ⟨r, f', g', n2', p', pa', s', sa', sw', rp', hc, hm0⟩ := A_clash (D := D) (a := xs (m + 1)) (n2 := n2) (rp := rp) (mn := mn) (ml := ml)  h (jY mf mg mn mb ml (jOut fo)) (z0, z1, nn, xs)
  obtain ⟨mf', mg', mn', mb', ml', hm, hR⟩ := hm0 (f', g', n2', p', pa', s', sa', sw', rp') (jOut fo) (z0, z1, nn, xs)
  refine ⟨d5, d6, f', g', n2', p', pa', s', sa', sw', rp', mf', mg', mn', mb', ml', fo, z0, z1, ?_, hR, by omega, by omega⟩
  refine (jev_blk 1 (pc' := 439) (L' := LW m d5 d6) (S' := [.ref 0]) (h' := (jX f g n2 p pa s sa sw rp (jY mf mg mn mb ml (jOut fo)), (z0, z1, nn, xs))) rfl).trans ?_
  refine (lw_ld (k := 1) (kk := 1) (pc := 439) (pc1 := 443) (pc2 := 444) rfl rfl (fun _ => rfl) hl1 hn).trans ?_
  refine (lw_call (nx := 445) (rest := []) hc (jev_callb rfl)).trans ?_
  refine (jev_blk 1 (pc' := 446) (L' := LW m d5 d6) (S' := [.ref 79, .int r]) (h' := (jX f' g' n2' p' pa' s' sa' sw' rp' (jY mf mg mn mb ml (jOut fo)), (z0, z1, nn, xs))) rfl).trans ?_
  refine (lw_ld (k := 1) (kk := 1) (pc := 446) (pc1 := 450) (pc2 := 451) rfl rfl (fun _ => rfl) hl1 hn).trans ?_
  refine (lw_call (nx := 452) (rest := [.int r]) hm (jev_callb rfl)).trans ?_
  refine (jev_blk 1 (pc' := if r = r then 926 else 453) (L' := LW m d5 d6) (S' := []) (h' := (jX f' g' n2' p' pa' s' sa' sw' rp' (jY mf' mg' mn' mb' ml' (jOut fo)), (z0, z1, nn, xs))) rfl).trans ?_
  rw [if_pos rfl]
set_option maxRecDepth 20000 in
set_option maxHeartbeats 2000000 in
theorem W_15 {D m z0 z1 nn : Nat} {xs : Nat → Int32} {d5 d6 : Option Value} {fo : Nat → Int64} {f : Nat → Int32} {g : Nat → Nat → Int32} {n2 : Nat → Nat → Int64} {p : Nat → Nat → Int32} {pa : Nat → Nat → Nat → Int32} {s : Nat → Nat → Int32} {sa : Nat → Nat → Nat → Int32} {sw : Bool} {rp : Value} {mf : Nat → Int32} {mg : Nat → Nat → Int32} {mn : Nat → Nat → Int64} {mb : Nat → Nat → Int32} {ml : Nat → Int64} (hD : 119 ≤ D) (hl : m + 6 ≤ nn) (hn : nn < 2147483648) (h : RR f g p pa s sa sw mf mg mb) : jWo D m z0 z1 nn xs (jev D 245 455 (LW m d5 d6) [] (jX f g n2 p pa s sa sw rp (jY mf mg mn mb ml (jOut fo)), (z0, z1, nn, xs))) := by
  have hl1 : m + 1 < nn := by omega
  have hl2 : m + 2 < nn := by omega
  have hl3 : m + 3 < nn := by omega
  obtain ⟨r, f', g', n2', p', pa', s', sa', sw', rp', hc, hm0⟩ := A_keeping (D := D) (a := xs (m + 1)) (x := xs (m + 2)) (v := xs (m + 3)) (n2 := n2) (rp := rp) (mn := mn) (ml := ml)  h (jY mf mg mn mb ml (jOut fo)) (z0, z1, nn, xs)
  obtain ⟨mf', mg', mn', mb', ml', hm, hR⟩ := hm0 (f', g', n2', p', pa', s', sa', sw', rp') (jOut fo) (z0, z1, nn, xs)
  refine ⟨d5, d6, f', g', n2', p', pa', s', sa', sw', rp', mf', mg', mn', mb', ml', fo, z0, z1, ?_, hR, by omega, by omega⟩
  refine (jev_blk 1 (pc' := 456) (L' := LW m d5 d6) (S' := [.ref 0]) (h' := (jX f g n2 p pa s sa sw rp (jY mf mg mn mb ml (jOut fo)), (z0, z1, nn, xs))) rfl).trans ?_
  refine (lw_ld (k := 1) (kk := 1) (pc := 456) (pc1 := 460) (pc2 := 461) rfl rfl (fun _ => rfl) hl1 hn).trans ?_
  refine (lw_ld (k := 2) (kk := 2) (pc := 461) (pc1 := 465) (pc2 := 466) rfl rfl (fun _ => rfl) hl2 hn).trans ?_
  refine (lw_ld (k := 3) (kk := 3) (pc := 466) (pc1 := 470) (pc2 := 471) rfl rfl (fun _ => rfl) hl3 hn).trans ?_
  refine (lw_call (nx := 472) (rest := []) hc (jev_callb rfl)).trans ?_
  refine (jev_blk 1 (pc' := 473) (L' := LW m d5 d6) (S' := [.ref 79, .int r]) (h' := (jX f' g' n2' p' pa' s' sa' sw' rp' (jY mf mg mn mb ml (jOut fo)), (z0, z1, nn, xs))) rfl).trans ?_
  refine (lw_ld (k := 1) (kk := 1) (pc := 473) (pc1 := 477) (pc2 := 478) rfl rfl (fun _ => rfl) hl1 hn).trans ?_
  refine (lw_ld (k := 2) (kk := 2) (pc := 478) (pc1 := 482) (pc2 := 483) rfl rfl (fun _ => rfl) hl2 hn).trans ?_
  refine (lw_ld (k := 3) (kk := 3) (pc := 483) (pc1 := 487) (pc2 := 488) rfl rfl (fun _ => rfl) hl3 hn).trans ?_
  refine (lw_call (nx := 489) (rest := [.int r]) hm (jev_callb rfl)).trans ?_
  refine (jev_blk 1 (pc' := if r = r then 926 else 490) (L' := LW m d5 d6) (S' := []) (h' := (jX f' g' n2' p' pa' s' sa' sw' rp' (jY mf' mg' mn' mb' ml' (jOut fo)), (z0, z1, nn, xs))) rfl).trans ?_
  rw [if_pos rfl]
set_option maxRecDepth 20000 in
set_option maxHeartbeats 2000000 in
theorem W_16 {D m z0 z1 nn : Nat} {xs : Nat → Int32} {d5 d6 : Option Value} {fo : Nat → Int64} {f : Nat → Int32} {g : Nat → Nat → Int32} {n2 : Nat → Nat → Int64} {p : Nat → Nat → Int32} {pa : Nat → Nat → Nat → Int32} {s : Nat → Nat → Int32} {sa : Nat → Nat → Nat → Int32} {sw : Bool} {rp : Value} {mf : Nat → Int32} {mg : Nat → Nat → Int32} {mn : Nat → Nat → Int64} {mb : Nat → Nat → Int32} {ml : Nat → Int64} (hD : 119 ≤ D) (hl : m + 6 ≤ nn) (hn : nn < 2147483648) (h : RR f g p pa s sa sw mf mg mb) : jWo D m z0 z1 nn xs (jev D 245 492 (LW m d5 d6) [] (jX f g n2 p pa s sa sw rp (jY mf mg mn mb ml (jOut fo)), (z0, z1, nn, xs))) := by
  obtain ⟨r, f', g', n2', p', pa', s', sa', sw', rp', hc, hm0⟩ := A_allSeen (D := D) (n2 := n2) (rp := rp) (mn := mn) (ml := ml)  h (jY mf mg mn mb ml (jOut fo)) (z0, z1, nn, xs)
  obtain ⟨mf', mg', mn', mb', ml', hm, hR⟩ := hm0 (f', g', n2', p', pa', s', sa', sw', rp') (jOut fo) (z0, z1, nn, xs)
  refine ⟨d5, d6, f', g', n2', p', pa', s', sa', sw', rp', mf', mg', mn', mb', ml', fo, z0, z1, ?_, hR, by omega, by omega⟩
  refine (jev_blk 1 (pc' := 493) (L' := LW m d5 d6) (S' := [.ref 0]) (h' := (jX f g n2 p pa s sa sw rp (jY mf mg mn mb ml (jOut fo)), (z0, z1, nn, xs))) rfl).trans ?_
  refine (lw_call (nx := 494) (rest := []) hc (jev_callb rfl)).trans ?_
  refine (jev_blk 1 (pc' := 495) (L' := LW m d5 d6) (S' := [.ref 79, .int r]) (h' := (jX f' g' n2' p' pa' s' sa' sw' rp' (jY mf mg mn mb ml (jOut fo)), (z0, z1, nn, xs))) rfl).trans ?_
  refine (lw_call (nx := 496) (rest := [.int r]) hm (jev_callb rfl)).trans ?_
  refine (jev_blk 1 (pc' := if r = r then 926 else 497) (L' := LW m d5 d6) (S' := []) (h' := (jX f' g' n2' p' pa' s' sa' sw' rp' (jY mf' mg' mn' mb' ml' (jOut fo)), (z0, z1, nn, xs))) rfl).trans ?_
  rw [if_pos rfl]
set_option maxRecDepth 20000 in
set_option maxHeartbeats 2000000 in
theorem W_17 {D m z0 z1 nn : Nat} {xs : Nat → Int32} {d5 d6 : Option Value} {fo : Nat → Int64} {f : Nat → Int32} {g : Nat → Nat → Int32} {n2 : Nat → Nat → Int64} {p : Nat → Nat → Int32} {pa : Nat → Nat → Nat → Int32} {s : Nat → Nat → Int32} {sa : Nat → Nat → Nat → Int32} {sw : Bool} {rp : Value} {mf : Nat → Int32} {mg : Nat → Nat → Int32} {mn : Nat → Nat → Int64} {mb : Nat → Nat → Int32} {ml : Nat → Int64} (hD : 119 ≤ D) (hl : m + 6 ≤ nn) (hn : nn < 2147483648) (h : RR f g p pa s sa sw mf mg mb) : jWo D m z0 z1 nn xs (jev D 245 499 (LW m d5 d6) [] (jX f g n2 p pa s sa sw rp (jY mf mg mn mb ml (jOut fo)), (z0, z1, nn, xs))) := by
  have hl1 : m + 1 < nn := by omega
  have hl2 : m + 2 < nn := by omega
  obtain ⟨r, f', g', n2', p', pa', s', sa', sw', rp', hc, hm0⟩ := A_oneMore (D := D) (a := xs (m + 1)) (w := xs (m + 2)) (n2 := n2) (rp := rp) (mn := mn) (ml := ml)  h (jY mf mg mn mb ml (jOut fo)) (z0, z1, nn, xs)
  obtain ⟨mf', mg', mn', mb', ml', hm, hR⟩ := hm0 (f', g', n2', p', pa', s', sa', sw', rp') (jOut fo) (z0, z1, nn, xs)
  refine ⟨d5, d6, f', g', n2', p', pa', s', sa', sw', rp', mf', mg', mn', mb', ml', fo, z0, z1, ?_, hR, by omega, by omega⟩
  refine (jev_blk 1 (pc' := 500) (L' := LW m d5 d6) (S' := [.ref 0]) (h' := (jX f g n2 p pa s sa sw rp (jY mf mg mn mb ml (jOut fo)), (z0, z1, nn, xs))) rfl).trans ?_
  refine (lw_ld (k := 1) (kk := 1) (pc := 500) (pc1 := 504) (pc2 := 505) rfl rfl (fun _ => rfl) hl1 hn).trans ?_
  refine (lw_ld (k := 2) (kk := 2) (pc := 505) (pc1 := 509) (pc2 := 510) rfl rfl (fun _ => rfl) hl2 hn).trans ?_
  refine (lw_call (nx := 511) (rest := []) hc (jev_callb rfl)).trans ?_
  refine (jev_blk 1 (pc' := 512) (L' := LW m d5 d6) (S' := [.ref 79, .int r]) (h' := (jX f' g' n2' p' pa' s' sa' sw' rp' (jY mf mg mn mb ml (jOut fo)), (z0, z1, nn, xs))) rfl).trans ?_
  refine (lw_ld (k := 1) (kk := 1) (pc := 512) (pc1 := 516) (pc2 := 517) rfl rfl (fun _ => rfl) hl1 hn).trans ?_
  refine (lw_ld (k := 2) (kk := 2) (pc := 517) (pc1 := 521) (pc2 := 522) rfl rfl (fun _ => rfl) hl2 hn).trans ?_
  refine (lw_call (nx := 523) (rest := [.int r]) hm (jev_callb rfl)).trans ?_
  refine (jev_blk 1 (pc' := if r = r then 926 else 524) (L' := LW m d5 d6) (S' := []) (h' := (jX f' g' n2' p' pa' s' sa' sw' rp' (jY mf' mg' mn' mb' ml' (jOut fo)), (z0, z1, nn, xs))) rfl).trans ?_
  rw [if_pos rfl]
set_option maxRecDepth 20000 in
set_option maxHeartbeats 2000000 in
theorem W_18 {D m z0 z1 nn : Nat} {xs : Nat → Int32} {d5 d6 : Option Value} {fo : Nat → Int64} {f : Nat → Int32} {g : Nat → Nat → Int32} {n2 : Nat → Nat → Int64} {p : Nat → Nat → Int32} {pa : Nat → Nat → Nat → Int32} {s : Nat → Nat → Int32} {sa : Nat → Nat → Nat → Int32} {sw : Bool} {rp : Value} {mf : Nat → Int32} {mg : Nat → Nat → Int32} {mn : Nat → Nat → Int64} {mb : Nat → Nat → Int32} {ml : Nat → Int64} (hD : 119 ≤ D) (hl : m + 6 ≤ nn) (hn : nn < 2147483648) (h : RR f g p pa s sa sw mf mg mb) : jWo D m z0 z1 nn xs (jev D 245 526 (LW m d5 d6) [] (jX f g n2 p pa s sa sw rp (jY mf mg mn mb ml (jOut fo)), (z0, z1, nn, xs))) := by
  have hl1 : m + 1 < nn := by omega
  have hl2 : m + 2 < nn := by omega
  have hl3 : m + 3 < nn := by omega
  obtain ⟨r, f', g', n2', p', pa', s', sa', sw', rp', hc, hm0⟩ := A_costs (D := D) (a := xs (m + 1)) (x := xs (m + 2)) (w := xs (m + 3)) (n2 := n2) (rp := rp) (mn := mn) (ml := ml)  h (jY mf mg mn mb ml (jOut fo)) (z0, z1, nn, xs)
  obtain ⟨mf', mg', mn', mb', ml', hm, hR⟩ := hm0 (f', g', n2', p', pa', s', sa', sw', rp') (jOut fo) (z0, z1, nn, xs)
  refine ⟨d5, d6, f', g', n2', p', pa', s', sa', sw', rp', mf', mg', mn', mb', ml', fo, z0, z1, ?_, hR, by omega, by omega⟩
  refine (jev_blk 1 (pc' := 527) (L' := LW m d5 d6) (S' := [.ref 0]) (h' := (jX f g n2 p pa s sa sw rp (jY mf mg mn mb ml (jOut fo)), (z0, z1, nn, xs))) rfl).trans ?_
  refine (lw_ld (k := 1) (kk := 1) (pc := 527) (pc1 := 531) (pc2 := 532) rfl rfl (fun _ => rfl) hl1 hn).trans ?_
  refine (lw_ld (k := 2) (kk := 2) (pc := 532) (pc1 := 536) (pc2 := 537) rfl rfl (fun _ => rfl) hl2 hn).trans ?_
  refine (lw_ld (k := 3) (kk := 3) (pc := 537) (pc1 := 541) (pc2 := 542) rfl rfl (fun _ => rfl) hl3 hn).trans ?_
  refine (lw_call (nx := 543) (rest := []) hc (jev_callb rfl)).trans ?_
  refine (jev_blk 1 (pc' := 544) (L' := LW m d5 d6) (S' := [.ref 79, .int r]) (h' := (jX f' g' n2' p' pa' s' sa' sw' rp' (jY mf mg mn mb ml (jOut fo)), (z0, z1, nn, xs))) rfl).trans ?_
  refine (lw_ld (k := 1) (kk := 1) (pc := 544) (pc1 := 548) (pc2 := 549) rfl rfl (fun _ => rfl) hl1 hn).trans ?_
  refine (lw_ld (k := 2) (kk := 2) (pc := 549) (pc1 := 553) (pc2 := 554) rfl rfl (fun _ => rfl) hl2 hn).trans ?_
  refine (lw_ld (k := 3) (kk := 3) (pc := 554) (pc1 := 558) (pc2 := 559) rfl rfl (fun _ => rfl) hl3 hn).trans ?_
  refine (lw_call (nx := 560) (rest := [.int r]) hm (jev_callb rfl)).trans ?_
  refine (jev_blk 1 (pc' := if r = r then 926 else 561) (L' := LW m d5 d6) (S' := []) (h' := (jX f' g' n2' p' pa' s' sa' sw' rp' (jY mf' mg' mn' mb' ml' (jOut fo)), (z0, z1, nn, xs))) rfl).trans ?_
  rw [if_pos rfl]
set_option maxRecDepth 20000 in
set_option maxHeartbeats 2000000 in
theorem W_19 {D m z0 z1 nn : Nat} {xs : Nat → Int32} {d5 d6 : Option Value} {fo : Nat → Int64} {f : Nat → Int32} {g : Nat → Nat → Int32} {n2 : Nat → Nat → Int64} {p : Nat → Nat → Int32} {pa : Nat → Nat → Nat → Int32} {s : Nat → Nat → Int32} {sa : Nat → Nat → Nat → Int32} {sw : Bool} {rp : Value} {mf : Nat → Int32} {mg : Nat → Nat → Int32} {mn : Nat → Nat → Int64} {mb : Nat → Nat → Int32} {ml : Nat → Int64} (hD : 119 ≤ D) (hl : m + 6 ≤ nn) (hn : nn < 2147483648) (h : RR f g p pa s sa sw mf mg mb) : jWo D m z0 z1 nn xs (jev D 245 563 (LW m d5 d6) [] (jX f g n2 p pa s sa sw rp (jY mf mg mn mb ml (jOut fo)), (z0, z1, nn, xs))) := by
  have hl1 : m + 1 < nn := by omega
  have hl2 : m + 2 < nn := by omega
  have hl3 : m + 3 < nn := by omega
  obtain ⟨r, f', g', n2', p', pa', s', sa', sw', rp', hc, hm0⟩ := A_both (D := D) (a := xs (m + 1)) (a2 := xs (m + 2)) (w := xs (m + 3)) (n2 := n2) (rp := rp) (mn := mn) (ml := ml)  h (jY mf mg mn mb ml (jOut fo)) (z0, z1, nn, xs)
  obtain ⟨mf', mg', mn', mb', ml', hm, hR⟩ := hm0 (f', g', n2', p', pa', s', sa', sw', rp') (jOut fo) (z0, z1, nn, xs)
  refine ⟨d5, d6, f', g', n2', p', pa', s', sa', sw', rp', mf', mg', mn', mb', ml', fo, z0, z1, ?_, hR, by omega, by omega⟩
  refine (jev_blk 1 (pc' := 564) (L' := LW m d5 d6) (S' := [.ref 0]) (h' := (jX f g n2 p pa s sa sw rp (jY mf mg mn mb ml (jOut fo)), (z0, z1, nn, xs))) rfl).trans ?_
  refine (lw_ld (k := 1) (kk := 1) (pc := 564) (pc1 := 568) (pc2 := 569) rfl rfl (fun _ => rfl) hl1 hn).trans ?_
  refine (lw_ld (k := 2) (kk := 2) (pc := 569) (pc1 := 573) (pc2 := 574) rfl rfl (fun _ => rfl) hl2 hn).trans ?_
  refine (lw_ld (k := 3) (kk := 3) (pc := 574) (pc1 := 578) (pc2 := 579) rfl rfl (fun _ => rfl) hl3 hn).trans ?_
  refine (lw_call (nx := 580) (rest := []) hc (jev_callb rfl)).trans ?_
  refine (jev_blk 1 (pc' := 581) (L' := LW m d5 d6) (S' := [.ref 79, .int r]) (h' := (jX f' g' n2' p' pa' s' sa' sw' rp' (jY mf mg mn mb ml (jOut fo)), (z0, z1, nn, xs))) rfl).trans ?_
  refine (lw_ld (k := 1) (kk := 1) (pc := 581) (pc1 := 585) (pc2 := 586) rfl rfl (fun _ => rfl) hl1 hn).trans ?_
  refine (lw_ld (k := 2) (kk := 2) (pc := 586) (pc1 := 590) (pc2 := 591) rfl rfl (fun _ => rfl) hl2 hn).trans ?_
  refine (lw_ld (k := 3) (kk := 3) (pc := 591) (pc1 := 595) (pc2 := 596) rfl rfl (fun _ => rfl) hl3 hn).trans ?_
  refine (lw_call (nx := 597) (rest := [.int r]) hm (jev_callb rfl)).trans ?_
  refine (jev_blk 1 (pc' := if r = r then 926 else 598) (L' := LW m d5 d6) (S' := []) (h' := (jX f' g' n2' p' pa' s' sa' sw' rp' (jY mf' mg' mn' mb' ml' (jOut fo)), (z0, z1, nn, xs))) rfl).trans ?_
  rw [if_pos rfl]
set_option maxRecDepth 20000 in
set_option maxHeartbeats 2000000 in
theorem W_20 {D m z0 z1 nn : Nat} {xs : Nat → Int32} {d5 d6 : Option Value} {fo : Nat → Int64} {f : Nat → Int32} {g : Nat → Nat → Int32} {n2 : Nat → Nat → Int64} {p : Nat → Nat → Int32} {pa : Nat → Nat → Nat → Int32} {s : Nat → Nat → Int32} {sa : Nat → Nat → Nat → Int32} {sw : Bool} {rp : Value} {mf : Nat → Int32} {mg : Nat → Nat → Int32} {mn : Nat → Nat → Int64} {mb : Nat → Nat → Int32} {ml : Nat → Int64} (hD : 119 ≤ D) (hl : m + 6 ≤ nn) (hn : nn < 2147483648) (h : RR f g p pa s sa sw mf mg mb) : jWo D m z0 z1 nn xs (jev D 245 600 (LW m d5 d6) [] (jX f g n2 p pa s sa sw rp (jY mf mg mn mb ml (jOut fo)), (z0, z1, nn, xs))) := by
  have hl1 : m + 1 < nn := by omega
  obtain ⟨r, f', g', n2', p', pa', s', sa', sw', rp', hc, hm0⟩ := A_expects (D := D) (a := xs (m + 1)) (n2 := n2) (rp := rp) (mn := mn) (ml := ml)  h (jY mf mg mn mb ml (jOut fo)) (z0, z1, nn, xs)
  obtain ⟨mf', mg', mn', mb', ml', hm, hR⟩ := hm0 (f', g', n2', p', pa', s', sa', sw', rp') (jOut fo) (z0, z1, nn, xs)
  refine ⟨d5, d6, f', g', n2', p', pa', s', sa', sw', rp', mf', mg', mn', mb', ml', fo, z0, z1, ?_, hR, by omega, by omega⟩
  refine (jev_blk 1 (pc' := 601) (L' := LW m d5 d6) (S' := [.ref 0]) (h' := (jX f g n2 p pa s sa sw rp (jY mf mg mn mb ml (jOut fo)), (z0, z1, nn, xs))) rfl).trans ?_
  refine (lw_ld (k := 1) (kk := 1) (pc := 601) (pc1 := 605) (pc2 := 606) rfl rfl (fun _ => rfl) hl1 hn).trans ?_
  refine (lw_call (nx := 607) (rest := []) hc (jev_callb rfl)).trans ?_
  refine (jev_blk 1 (pc' := 608) (L' := LW m d5 d6) (S' := [.ref 79, .int r]) (h' := (jX f' g' n2' p' pa' s' sa' sw' rp' (jY mf mg mn mb ml (jOut fo)), (z0, z1, nn, xs))) rfl).trans ?_
  refine (lw_ld (k := 1) (kk := 1) (pc := 608) (pc1 := 612) (pc2 := 613) rfl rfl (fun _ => rfl) hl1 hn).trans ?_
  refine (lw_call (nx := 614) (rest := [.int r]) hm (jev_callb rfl)).trans ?_
  refine (jev_blk 1 (pc' := if r = r then 926 else 615) (L' := LW m d5 d6) (S' := []) (h' := (jX f' g' n2' p' pa' s' sa' sw' rp' (jY mf' mg' mn' mb' ml' (jOut fo)), (z0, z1, nn, xs))) rfl).trans ?_
  rw [if_pos rfl]
set_option maxRecDepth 20000 in
set_option maxHeartbeats 2000000 in
theorem W_21 {D m z0 z1 nn : Nat} {xs : Nat → Int32} {d5 d6 : Option Value} {fo : Nat → Int64} {f : Nat → Int32} {g : Nat → Nat → Int32} {n2 : Nat → Nat → Int64} {p : Nat → Nat → Int32} {pa : Nat → Nat → Nat → Int32} {s : Nat → Nat → Int32} {sa : Nat → Nat → Nat → Int32} {sw : Bool} {rp : Value} {mf : Nat → Int32} {mg : Nat → Nat → Int32} {mn : Nat → Nat → Int64} {mb : Nat → Nat → Int32} {ml : Nat → Int64} (hD : 119 ≤ D) (hl : m + 6 ≤ nn) (hn : nn < 2147483648) (h : RR f g p pa s sa sw mf mg mb) : jWo D m z0 z1 nn xs (jev D 245 617 (LW m d5 d6) [] (jX f g n2 p pa s sa sw rp (jY mf mg mn mb ml (jOut fo)), (z0, z1, nn, xs))) := by
  obtain ⟨r, f', g', n2', p', pa', s', sa', sw', rp', hc, hm0⟩ := A_idle (D := D) (n2 := n2) (rp := rp) (mn := mn) (ml := ml)  h (jY mf mg mn mb ml (jOut fo)) (z0, z1, nn, xs)
  obtain ⟨mf', mg', mn', mb', ml', hm, hR⟩ := hm0 (f', g', n2', p', pa', s', sa', sw', rp') (jOut fo) (z0, z1, nn, xs)
  refine ⟨d5, d6, f', g', n2', p', pa', s', sa', sw', rp', mf', mg', mn', mb', ml', fo, z0, z1, ?_, hR, by omega, by omega⟩
  refine (jev_blk 1 (pc' := 618) (L' := LW m d5 d6) (S' := [.ref 0]) (h' := (jX f g n2 p pa s sa sw rp (jY mf mg mn mb ml (jOut fo)), (z0, z1, nn, xs))) rfl).trans ?_
  refine (lw_call (nx := 619) (rest := []) hc (jev_callb rfl)).trans ?_
  refine (jev_blk 1 (pc' := 620) (L' := LW m d5 d6) (S' := [.ref 79, .int r]) (h' := (jX f' g' n2' p' pa' s' sa' sw' rp' (jY mf mg mn mb ml (jOut fo)), (z0, z1, nn, xs))) rfl).trans ?_
  refine (lw_call (nx := 621) (rest := [.int r]) hm (jev_callb rfl)).trans ?_
  refine (jev_blk 1 (pc' := if r = r then 926 else 622) (L' := LW m d5 d6) (S' := []) (h' := (jX f' g' n2' p' pa' s' sa' sw' rp' (jY mf' mg' mn' mb' ml' (jOut fo)), (z0, z1, nn, xs))) rfl).trans ?_
  rw [if_pos rfl]
set_option maxRecDepth 20000 in
set_option maxHeartbeats 2000000 in
theorem W_22 {D m z0 z1 nn : Nat} {xs : Nat → Int32} {d5 d6 : Option Value} {fo : Nat → Int64} {f : Nat → Int32} {g : Nat → Nat → Int32} {n2 : Nat → Nat → Int64} {p : Nat → Nat → Int32} {pa : Nat → Nat → Nat → Int32} {s : Nat → Nat → Int32} {sa : Nat → Nat → Nat → Int32} {sw : Bool} {rp : Value} {mf : Nat → Int32} {mg : Nat → Nat → Int32} {mn : Nat → Nat → Int64} {mb : Nat → Nat → Int32} {ml : Nat → Int64} (hD : 119 ≤ D) (hl : m + 6 ≤ nn) (hn : nn < 2147483648) (h : RR f g p pa s sa sw mf mg mb) : jWo D m z0 z1 nn xs (jev D 245 624 (LW m d5 d6) [] (jX f g n2 p pa s sa sw rp (jY mf mg mn mb ml (jOut fo)), (z0, z1, nn, xs))) := by
  have hl1 : m + 1 < nn := by omega
  have hl2 : m + 2 < nn := by omega
  have hl3 : m + 3 < nn := by omega
  have hl4 : m + 4 < nn := by omega
  have hl5 : m + 5 < nn := by omega
  obtain ⟨r, f', g', n2', p', pa', s', sa', sw', rp', hc, hm0⟩ := A_lot (D := D) (a := xs (m + 1)) (a2 := xs (m + 2)) (x := xs (m + 3)) (y := xs (m + 4)) (w := xs (m + 5)) (n2 := n2) (rp := rp) (mn := mn) (ml := ml)  h (jY mf mg mn mb ml (jOut fo)) (z0, z1, nn, xs)
  obtain ⟨mf', mg', mn', mb', ml', hm, hR⟩ := hm0 (f', g', n2', p', pa', s', sa', sw', rp') (jOut fo) (z0, z1, nn, xs)
  refine ⟨d5, d6, f', g', n2', p', pa', s', sa', sw', rp', mf', mg', mn', mb', ml', fo, z0, z1, ?_, hR, by omega, by omega⟩
  refine (jev_blk 1 (pc' := 625) (L' := LW m d5 d6) (S' := [.ref 0]) (h' := (jX f g n2 p pa s sa sw rp (jY mf mg mn mb ml (jOut fo)), (z0, z1, nn, xs))) rfl).trans ?_
  refine (lw_ld (k := 1) (kk := 1) (pc := 625) (pc1 := 629) (pc2 := 630) rfl rfl (fun _ => rfl) hl1 hn).trans ?_
  refine (lw_ld (k := 2) (kk := 2) (pc := 630) (pc1 := 634) (pc2 := 635) rfl rfl (fun _ => rfl) hl2 hn).trans ?_
  refine (lw_ld (k := 3) (kk := 3) (pc := 635) (pc1 := 639) (pc2 := 640) rfl rfl (fun _ => rfl) hl3 hn).trans ?_
  refine (lw_ld (k := 4) (kk := 4) (pc := 640) (pc1 := 644) (pc2 := 645) rfl rfl (fun _ => rfl) hl4 hn).trans ?_
  refine (lw_ld (k := 5) (kk := 5) (pc := 645) (pc1 := 649) (pc2 := 650) rfl rfl (fun _ => rfl) hl5 hn).trans ?_
  refine (lw_call (nx := 651) (rest := []) hc (jev_callb rfl)).trans ?_
  refine (jev_blk 1 (pc' := 652) (L' := LW m d5 d6) (S' := [.ref 79, .int r]) (h' := (jX f' g' n2' p' pa' s' sa' sw' rp' (jY mf mg mn mb ml (jOut fo)), (z0, z1, nn, xs))) rfl).trans ?_
  refine (lw_ld (k := 1) (kk := 1) (pc := 652) (pc1 := 656) (pc2 := 657) rfl rfl (fun _ => rfl) hl1 hn).trans ?_
  refine (lw_ld (k := 2) (kk := 2) (pc := 657) (pc1 := 661) (pc2 := 662) rfl rfl (fun _ => rfl) hl2 hn).trans ?_
  refine (lw_ld (k := 3) (kk := 3) (pc := 662) (pc1 := 666) (pc2 := 667) rfl rfl (fun _ => rfl) hl3 hn).trans ?_
  refine (lw_ld (k := 4) (kk := 4) (pc := 667) (pc1 := 671) (pc2 := 672) rfl rfl (fun _ => rfl) hl4 hn).trans ?_
  refine (lw_ld (k := 5) (kk := 5) (pc := 672) (pc1 := 676) (pc2 := 677) rfl rfl (fun _ => rfl) hl5 hn).trans ?_
  refine (lw_call (nx := 678) (rest := [.int r]) hm (jev_callb rfl)).trans ?_
  refine (jev_blk 1 (pc' := if r = r then 926 else 679) (L' := LW m d5 d6) (S' := []) (h' := (jX f' g' n2' p' pa' s' sa' sw' rp' (jY mf' mg' mn' mb' ml' (jOut fo)), (z0, z1, nn, xs))) rfl).trans ?_
  rw [if_pos rfl]
set_option maxRecDepth 20000 in
set_option maxHeartbeats 2000000 in
theorem W_23 {D m z0 z1 nn : Nat} {xs : Nat → Int32} {d5 d6 : Option Value} {fo : Nat → Int64} {f : Nat → Int32} {g : Nat → Nat → Int32} {n2 : Nat → Nat → Int64} {p : Nat → Nat → Int32} {pa : Nat → Nat → Nat → Int32} {s : Nat → Nat → Int32} {sa : Nat → Nat → Nat → Int32} {sw : Bool} {rp : Value} {mf : Nat → Int32} {mg : Nat → Nat → Int32} {mn : Nat → Nat → Int64} {mb : Nat → Nat → Int32} {ml : Nat → Int64} (hD : 119 ≤ D) (hl : m + 6 ≤ nn) (hn : nn < 2147483648) (h : RR f g p pa s sa sw mf mg mb) : jWo D m z0 z1 nn xs (jev D 245 681 (LW m d5 d6) [] (jX f g n2 p pa s sa sw rp (jY mf mg mn mb ml (jOut fo)), (z0, z1, nn, xs))) := by
  have hl1 : m + 1 < nn := by omega
  have hl2 : m + 2 < nn := by omega
  obtain ⟨r, f', g', n2', p', pa', s', sa', sw', rp', hc, hm0⟩ := A_share (D := D) (a := xs (m + 1)) (x := xs (m + 2)) (n2 := n2) (rp := rp) (mn := mn) (ml := ml)  h (jY mf mg mn mb ml (jOut fo)) (z0, z1, nn, xs)
  obtain ⟨mf', mg', mn', mb', ml', hm, hR⟩ := hm0 (f', g', n2', p', pa', s', sa', sw', rp') (jOut fo) (z0, z1, nn, xs)
  refine ⟨d5, d6, f', g', n2', p', pa', s', sa', sw', rp', mf', mg', mn', mb', ml', fo, z0, z1, ?_, hR, by omega, by omega⟩
  refine (jev_blk 1 (pc' := 682) (L' := LW m d5 d6) (S' := [.ref 0]) (h' := (jX f g n2 p pa s sa sw rp (jY mf mg mn mb ml (jOut fo)), (z0, z1, nn, xs))) rfl).trans ?_
  refine (lw_ld (k := 1) (kk := 1) (pc := 682) (pc1 := 686) (pc2 := 687) rfl rfl (fun _ => rfl) hl1 hn).trans ?_
  refine (lw_ld (k := 2) (kk := 2) (pc := 687) (pc1 := 691) (pc2 := 692) rfl rfl (fun _ => rfl) hl2 hn).trans ?_
  refine (lw_call (nx := 693) (rest := []) hc (jev_callb rfl)).trans ?_
  refine (jev_blk 1 (pc' := 694) (L' := LW m d5 d6) (S' := [.ref 79, .int r]) (h' := (jX f' g' n2' p' pa' s' sa' sw' rp' (jY mf mg mn mb ml (jOut fo)), (z0, z1, nn, xs))) rfl).trans ?_
  refine (lw_ld (k := 1) (kk := 1) (pc := 694) (pc1 := 698) (pc2 := 699) rfl rfl (fun _ => rfl) hl1 hn).trans ?_
  refine (lw_ld (k := 2) (kk := 2) (pc := 699) (pc1 := 703) (pc2 := 704) rfl rfl (fun _ => rfl) hl2 hn).trans ?_
  refine (lw_call (nx := 705) (rest := [.int r]) hm (jev_callb rfl)).trans ?_
  refine (jev_blk 1 (pc' := if r = r then 926 else 706) (L' := LW m d5 d6) (S' := []) (h' := (jX f' g' n2' p' pa' s' sa' sw' rp' (jY mf' mg' mn' mb' ml' (jOut fo)), (z0, z1, nn, xs))) rfl).trans ?_
  rw [if_pos rfl]
set_option maxRecDepth 20000 in
set_option maxHeartbeats 2000000 in
theorem W_24 {D m z0 z1 nn : Nat} {xs : Nat → Int32} {d5 d6 : Option Value} {fo : Nat → Int64} {f : Nat → Int32} {g : Nat → Nat → Int32} {n2 : Nat → Nat → Int64} {p : Nat → Nat → Int32} {pa : Nat → Nat → Nat → Int32} {s : Nat → Nat → Int32} {sa : Nat → Nat → Nat → Int32} {sw : Bool} {rp : Value} {mf : Nat → Int32} {mg : Nat → Nat → Int32} {mn : Nat → Nat → Int64} {mb : Nat → Nat → Int32} {ml : Nat → Int64} (hD : 119 ≤ D) (hl : m + 6 ≤ nn) (hn : nn < 2147483648) (h : RR f g p pa s sa sw mf mg mb) : jWo D m z0 z1 nn xs (jev D 245 708 (LW m d5 d6) [] (jX f g n2 p pa s sa sw rp (jY mf mg mn mb ml (jOut fo)), (z0, z1, nn, xs))) := by
  have hl1 : m + 1 < nn := by omega
  have hl2 : m + 2 < nn := by omega
  have hl3 : m + 3 < nn := by omega
  have hl4 : m + 4 < nn := by omega
  obtain ⟨r, f', g', n2', p', pa', s', sa', sw', rp', hc, hm0⟩ := A_note (D := D) (a := xs (m + 1)) (x := xs (m + 2)) (w := xs (m + 3)) (v := jbz (xs (m + 4))) (n2 := n2) (rp := rp) (mn := mn) (ml := ml)  h (jbz01 _) (jY mf mg mn mb ml (jOut fo)) (z0, z1, nn, xs)
  obtain ⟨mf', mg', mn', mb', ml', hm, hR⟩ := hm0 (f', g', n2', p', pa', s', sa', sw', rp') (jOut fo) (z0, z1, nn, xs)
  refine ⟨d5, d6, f', g', n2', p', pa', s', sa', sw', rp', mf', mg', mn', mb', ml', fo, z0, z1, ?_, hR, by omega, by omega⟩
  refine (jev_blk 1 (pc' := 709) (L' := LW m d5 d6) (S' := [.ref 0]) (h' := (jX f g n2 p pa s sa sw rp (jY mf mg mn mb ml (jOut fo)), (z0, z1, nn, xs))) rfl).trans ?_
  refine (lw_ld (k := 1) (kk := 1) (pc := 709) (pc1 := 713) (pc2 := 714) rfl rfl (fun _ => rfl) hl1 hn).trans ?_
  refine (lw_ld (k := 2) (kk := 2) (pc := 714) (pc1 := 718) (pc2 := 719) rfl rfl (fun _ => rfl) hl2 hn).trans ?_
  refine (lw_ld (k := 3) (kk := 3) (pc := 719) (pc1 := 723) (pc2 := 724) rfl rfl (fun _ => rfl) hl3 hn).trans ?_
  refine (lw_ld (k := 4) (kk := 4) (pc := 724) (pc1 := 728) (pc2 := 729) rfl rfl (fun _ => rfl) hl4 hn).trans ?_
  refine (lw_b (pc := 729) (pc1 := 730) (pc2 := 732) (pc3 := 733) rfl rfl rfl).trans ?_
  refine (lw_call (nx := 734) (rest := []) hc (jev_callb rfl)).trans ?_
  refine (jev_blk 1 (pc' := 735) (L' := LW m d5 d6) (S' := [.ref 79, .int r]) (h' := (jX f' g' n2' p' pa' s' sa' sw' rp' (jY mf mg mn mb ml (jOut fo)), (z0, z1, nn, xs))) rfl).trans ?_
  refine (lw_ld (k := 1) (kk := 1) (pc := 735) (pc1 := 739) (pc2 := 740) rfl rfl (fun _ => rfl) hl1 hn).trans ?_
  refine (lw_ld (k := 2) (kk := 2) (pc := 740) (pc1 := 744) (pc2 := 745) rfl rfl (fun _ => rfl) hl2 hn).trans ?_
  refine (lw_ld (k := 3) (kk := 3) (pc := 745) (pc1 := 749) (pc2 := 750) rfl rfl (fun _ => rfl) hl3 hn).trans ?_
  refine (lw_ld (k := 4) (kk := 4) (pc := 750) (pc1 := 754) (pc2 := 755) rfl rfl (fun _ => rfl) hl4 hn).trans ?_
  refine (lw_b (pc := 755) (pc1 := 756) (pc2 := 758) (pc3 := 759) rfl rfl rfl).trans ?_
  refine (lw_call (nx := 760) (rest := [.int r]) hm (jev_callb rfl)).trans ?_
  refine (jev_blk 1 (pc' := if r = r then 926 else 761) (L' := LW m d5 d6) (S' := []) (h' := (jX f' g' n2' p' pa' s' sa' sw' rp' (jY mf' mg' mn' mb' ml' (jOut fo)), (z0, z1, nn, xs))) rfl).trans ?_
  rw [if_pos rfl]
set_option maxRecDepth 20000 in
set_option maxHeartbeats 2000000 in
theorem W_25 {D m z0 z1 nn : Nat} {xs : Nat → Int32} {d5 d6 : Option Value} {fo : Nat → Int64} {f : Nat → Int32} {g : Nat → Nat → Int32} {n2 : Nat → Nat → Int64} {p : Nat → Nat → Int32} {pa : Nat → Nat → Nat → Int32} {s : Nat → Nat → Int32} {sa : Nat → Nat → Nat → Int32} {sw : Bool} {rp : Value} {mf : Nat → Int32} {mg : Nat → Nat → Int32} {mn : Nat → Nat → Int64} {mb : Nat → Nat → Int32} {ml : Nat → Int64} (hD : 119 ≤ D) (hl : m + 6 ≤ nn) (hn : nn < 2147483648) (h : RR f g p pa s sa sw mf mg mb) : jWo D m z0 z1 nn xs (jev D 245 763 (LW m d5 d6) [] (jX f g n2 p pa s sa sw rp (jY mf mg mn mb ml (jOut fo)), (z0, z1, nn, xs))) := by
  have hl1 : m + 1 < nn := by omega
  obtain ⟨r, f', g', n2', p', pa', s', sa', sw', rp', hc, hm0⟩ := A_out (D := D) (a := xs (m + 1)) (n2 := n2) (rp := rp) (mn := mn) (ml := ml)  h (jY mf mg mn mb ml (jOut fo)) (z0, z1, nn, xs)
  obtain ⟨mf', mg', mn', mb', ml', hm, hR⟩ := hm0 (f', g', n2', p', pa', s', sa', sw', rp') (jOut fo) (z0, z1, nn, xs)
  refine ⟨d5, d6, f', g', n2', p', pa', s', sa', sw', rp', mf', mg', mn', mb', ml', fo, z0, z1, ?_, hR, by omega, by omega⟩
  refine (jev_blk 1 (pc' := 764) (L' := LW m d5 d6) (S' := [.ref 0]) (h' := (jX f g n2 p pa s sa sw rp (jY mf mg mn mb ml (jOut fo)), (z0, z1, nn, xs))) rfl).trans ?_
  refine (lw_ld (k := 1) (kk := 1) (pc := 764) (pc1 := 768) (pc2 := 769) rfl rfl (fun _ => rfl) hl1 hn).trans ?_
  refine (lw_call (nx := 770) (rest := []) hc (jev_callb rfl)).trans ?_
  refine (jev_blk 1 (pc' := 771) (L' := LW m d5 d6) (S' := [.ref 79, .int r]) (h' := (jX f' g' n2' p' pa' s' sa' sw' rp' (jY mf mg mn mb ml (jOut fo)), (z0, z1, nn, xs))) rfl).trans ?_
  refine (lw_ld (k := 1) (kk := 1) (pc := 771) (pc1 := 775) (pc2 := 776) rfl rfl (fun _ => rfl) hl1 hn).trans ?_
  refine (lw_call (nx := 777) (rest := [.int r]) hm (jev_callb rfl)).trans ?_
  refine (jev_blk 1 (pc' := if r = r then 926 else 778) (L' := LW m d5 d6) (S' := []) (h' := (jX f' g' n2' p' pa' s' sa' sw' rp' (jY mf' mg' mn' mb' ml' (jOut fo)), (z0, z1, nn, xs))) rfl).trans ?_
  rw [if_pos rfl]
set_option maxRecDepth 20000 in
set_option maxHeartbeats 2000000 in
theorem W_26 {D m z0 z1 nn : Nat} {xs : Nat → Int32} {d5 d6 : Option Value} {fo : Nat → Int64} {f : Nat → Int32} {g : Nat → Nat → Int32} {n2 : Nat → Nat → Int64} {p : Nat → Nat → Int32} {pa : Nat → Nat → Nat → Int32} {s : Nat → Nat → Int32} {sa : Nat → Nat → Nat → Int32} {sw : Bool} {rp : Value} {mf : Nat → Int32} {mg : Nat → Nat → Int32} {mn : Nat → Nat → Int64} {mb : Nat → Nat → Int32} {ml : Nat → Int64} (hD : 119 ≤ D) (hl : m + 6 ≤ nn) (hn : nn < 2147483648) (h : RR f g p pa s sa sw mf mg mb) : jWo D m z0 z1 nn xs (jev D 245 780 (LW m d5 d6) [] (jX f g n2 p pa s sa sw rp (jY mf mg mn mb ml (jOut fo)), (z0, z1, nn, xs))) := by
  have hl1 : m + 1 < nn := by omega
  obtain ⟨r, f', g', n2', p', pa', s', sa', sw', rp', hc, hm0⟩ := A_known (D := D) (a := xs (m + 1)) (n2 := n2) (rp := rp) (mn := mn) (ml := ml)  h (jY mf mg mn mb ml (jOut fo)) (z0, z1, nn, xs)
  obtain ⟨mf', mg', mn', mb', ml', hm, hR⟩ := hm0 (f', g', n2', p', pa', s', sa', sw', rp') (jOut fo) (z0, z1, nn, xs)
  refine ⟨d5, d6, f', g', n2', p', pa', s', sa', sw', rp', mf', mg', mn', mb', ml', fo, z0, z1, ?_, hR, by omega, by omega⟩
  refine (jev_blk 1 (pc' := 781) (L' := LW m d5 d6) (S' := [.ref 0]) (h' := (jX f g n2 p pa s sa sw rp (jY mf mg mn mb ml (jOut fo)), (z0, z1, nn, xs))) rfl).trans ?_
  refine (lw_ld (k := 1) (kk := 1) (pc := 781) (pc1 := 785) (pc2 := 786) rfl rfl (fun _ => rfl) hl1 hn).trans ?_
  refine (lw_call (nx := 787) (rest := []) hc (jev_callb rfl)).trans ?_
  refine (jev_blk 1 (pc' := 788) (L' := LW m d5 d6) (S' := [.ref 79, .int r]) (h' := (jX f' g' n2' p' pa' s' sa' sw' rp' (jY mf mg mn mb ml (jOut fo)), (z0, z1, nn, xs))) rfl).trans ?_
  refine (lw_ld (k := 1) (kk := 1) (pc := 788) (pc1 := 792) (pc2 := 793) rfl rfl (fun _ => rfl) hl1 hn).trans ?_
  refine (lw_call (nx := 794) (rest := [.int r]) hm (jev_callb rfl)).trans ?_
  refine (jev_blk 1 (pc' := if r = r then 926 else 795) (L' := LW m d5 d6) (S' := []) (h' := (jX f' g' n2' p' pa' s' sa' sw' rp' (jY mf' mg' mn' mb' ml' (jOut fo)), (z0, z1, nn, xs))) rfl).trans ?_
  rw [if_pos rfl]
set_option maxRecDepth 20000 in
set_option maxHeartbeats 2000000 in
theorem W_27 {D m z0 z1 nn : Nat} {xs : Nat → Int32} {d5 d6 : Option Value} {fo : Nat → Int64} {f : Nat → Int32} {g : Nat → Nat → Int32} {n2 : Nat → Nat → Int64} {p : Nat → Nat → Int32} {pa : Nat → Nat → Nat → Int32} {s : Nat → Nat → Int32} {sa : Nat → Nat → Nat → Int32} {sw : Bool} {rp : Value} {mf : Nat → Int32} {mg : Nat → Nat → Int32} {mn : Nat → Nat → Int64} {mb : Nat → Nat → Int32} {ml : Nat → Int64} (hD : 119 ≤ D) (hl : m + 6 ≤ nn) (hn : nn < 2147483648) (h : RR f g p pa s sa sw mf mg mb) : jWo D m z0 z1 nn xs (jev D 245 797 (LW m d5 d6) [] (jX f g n2 p pa s sa sw rp (jY mf mg mn mb ml (jOut fo)), (z0, z1, nn, xs))) := by
  have hl1 : m + 1 < nn := by omega
  obtain ⟨r, f', g', n2', p', pa', s', sa', sw', rp', hc, hm0⟩ := A_fits (D := D) (a := xs (m + 1)) (n2 := n2) (rp := rp) (mn := mn) (ml := ml)  h (jY mf mg mn mb ml (jOut fo)) (z0, z1, nn, xs)
  obtain ⟨mf', mg', mn', mb', ml', hm, hR⟩ := hm0 (f', g', n2', p', pa', s', sa', sw', rp') (jOut fo) (z0, z1, nn, xs)
  refine ⟨d5, d6, f', g', n2', p', pa', s', sa', sw', rp', mf', mg', mn', mb', ml', fo, z0, z1, ?_, hR, by omega, by omega⟩
  refine (jev_blk 1 (pc' := 798) (L' := LW m d5 d6) (S' := [.ref 0]) (h' := (jX f g n2 p pa s sa sw rp (jY mf mg mn mb ml (jOut fo)), (z0, z1, nn, xs))) rfl).trans ?_
  refine (lw_ld (k := 1) (kk := 1) (pc := 798) (pc1 := 802) (pc2 := 803) rfl rfl (fun _ => rfl) hl1 hn).trans ?_
  refine (lw_call (nx := 804) (rest := []) hc (jev_callb rfl)).trans ?_
  refine (jev_blk 1 (pc' := 805) (L' := LW m d5 d6) (S' := [.ref 79, .int r]) (h' := (jX f' g' n2' p' pa' s' sa' sw' rp' (jY mf mg mn mb ml (jOut fo)), (z0, z1, nn, xs))) rfl).trans ?_
  refine (lw_ld (k := 1) (kk := 1) (pc := 805) (pc1 := 809) (pc2 := 810) rfl rfl (fun _ => rfl) hl1 hn).trans ?_
  refine (lw_call (nx := 811) (rest := [.int r]) hm (jev_callb rfl)).trans ?_
  refine (jev_blk 1 (pc' := if r = r then 926 else 812) (L' := LW m d5 d6) (S' := []) (h' := (jX f' g' n2' p' pa' s' sa' sw' rp' (jY mf' mg' mn' mb' ml' (jOut fo)), (z0, z1, nn, xs))) rfl).trans ?_
  rw [if_pos rfl]
set_option maxRecDepth 20000 in
set_option maxHeartbeats 2000000 in
theorem W_28 {D m z0 z1 nn : Nat} {xs : Nat → Int32} {d5 d6 : Option Value} {fo : Nat → Int64} {f : Nat → Int32} {g : Nat → Nat → Int32} {n2 : Nat → Nat → Int64} {p : Nat → Nat → Int32} {pa : Nat → Nat → Nat → Int32} {s : Nat → Nat → Int32} {sa : Nat → Nat → Nat → Int32} {sw : Bool} {rp : Value} {mf : Nat → Int32} {mg : Nat → Nat → Int32} {mn : Nat → Nat → Int64} {mb : Nat → Nat → Int32} {ml : Nat → Int64} (hD : 119 ≤ D) (hl : m + 6 ≤ nn) (hn : nn < 2147483648) (h : RR f g p pa s sa sw mf mg mb) : jWo D m z0 z1 nn xs (jev D 245 814 (LW m d5 d6) [] (jX f g n2 p pa s sa sw rp (jY mf mg mn mb ml (jOut fo)), (z0, z1, nn, xs))) := by
  have hl1 : m + 1 < nn := by omega
  have hl2 : m + 2 < nn := by omega
  have hl3 : m + 3 < nn := by omega
  obtain ⟨r, f', g', n2', p', pa', s', sa', sw', rp', hc, hm0⟩ := A_chance (D := D) (a := xs (m + 1)) (x := xs (m + 2)) (v := xs (m + 3)) (n2 := n2) (rp := rp) (mn := mn) (ml := ml)  h (jY mf mg mn mb ml (jOut fo)) (z0, z1, nn, xs)
  obtain ⟨mf', mg', mn', mb', ml', hm, hR⟩ := hm0 (f', g', n2', p', pa', s', sa', sw', rp') (jOut fo) (z0, z1, nn, xs)
  refine ⟨d5, d6, f', g', n2', p', pa', s', sa', sw', rp', mf', mg', mn', mb', ml', fo, z0, z1, ?_, hR, by omega, by omega⟩
  refine (jev_blk 1 (pc' := 815) (L' := LW m d5 d6) (S' := [.ref 0]) (h' := (jX f g n2 p pa s sa sw rp (jY mf mg mn mb ml (jOut fo)), (z0, z1, nn, xs))) rfl).trans ?_
  refine (lw_ld (k := 1) (kk := 1) (pc := 815) (pc1 := 819) (pc2 := 820) rfl rfl (fun _ => rfl) hl1 hn).trans ?_
  refine (lw_ld (k := 2) (kk := 2) (pc := 820) (pc1 := 824) (pc2 := 825) rfl rfl (fun _ => rfl) hl2 hn).trans ?_
  refine (lw_ld (k := 3) (kk := 3) (pc := 825) (pc1 := 829) (pc2 := 830) rfl rfl (fun _ => rfl) hl3 hn).trans ?_
  refine (lw_call (nx := 831) (rest := []) hc (jev_callb rfl)).trans ?_
  refine (jev_blk 1 (pc' := 832) (L' := LW m d5 d6) (S' := [.ref 79, .int r]) (h' := (jX f' g' n2' p' pa' s' sa' sw' rp' (jY mf mg mn mb ml (jOut fo)), (z0, z1, nn, xs))) rfl).trans ?_
  refine (lw_ld (k := 1) (kk := 1) (pc := 832) (pc1 := 836) (pc2 := 837) rfl rfl (fun _ => rfl) hl1 hn).trans ?_
  refine (lw_ld (k := 2) (kk := 2) (pc := 837) (pc1 := 841) (pc2 := 842) rfl rfl (fun _ => rfl) hl2 hn).trans ?_
  refine (lw_ld (k := 3) (kk := 3) (pc := 842) (pc1 := 846) (pc2 := 847) rfl rfl (fun _ => rfl) hl3 hn).trans ?_
  refine (lw_call (nx := 848) (rest := [.int r]) hm (jev_callb rfl)).trans ?_
  refine (jev_blk 1 (pc' := if r = r then 926 else 849) (L' := LW m d5 d6) (S' := []) (h' := (jX f' g' n2' p' pa' s' sa' sw' rp' (jY mf' mg' mn' mb' ml' (jOut fo)), (z0, z1, nn, xs))) rfl).trans ?_
  rw [if_pos rfl]
set_option maxRecDepth 20000 in
set_option maxHeartbeats 2000000 in
theorem W_29 {D m z0 z1 nn : Nat} {xs : Nat → Int32} {d5 d6 : Option Value} {fo : Nat → Int64} {f : Nat → Int32} {g : Nat → Nat → Int32} {n2 : Nat → Nat → Int64} {p : Nat → Nat → Int32} {pa : Nat → Nat → Nat → Int32} {s : Nat → Nat → Int32} {sa : Nat → Nat → Nat → Int32} {sw : Bool} {rp : Value} {mf : Nat → Int32} {mg : Nat → Nat → Int32} {mn : Nat → Nat → Int64} {mb : Nat → Nat → Int32} {ml : Nat → Int64} (hD : 119 ≤ D) (hl : m + 6 ≤ nn) (hn : nn < 2147483648) (h : RR f g p pa s sa sw mf mg mb) : jWo D m z0 z1 nn xs (jev D 245 851 (LW m d5 d6) [] (jX f g n2 p pa s sa sw rp (jY mf mg mn mb ml (jOut fo)), (z0, z1, nn, xs))) := by
  have hl1 : m + 1 < nn := by omega
  have hl2 : m + 2 < nn := by omega
  have hl3 : m + 3 < nn := by omega
  obtain ⟨r, f', g', n2', p', pa', s', sa', sw', rp', hc, hm0⟩ := A_tried (D := D) (w := xs (m + 1)) (x := xs (m + 2)) (v := xs (m + 3)) (n2 := n2) (rp := rp) (mn := mn) (ml := ml)  h (jY mf mg mn mb ml (jOut fo)) (z0, z1, nn, xs)
  obtain ⟨mf', mg', mn', mb', ml', hm, hR⟩ := hm0 (f', g', n2', p', pa', s', sa', sw', rp') (jOut fo) (z0, z1, nn, xs)
  refine ⟨d5, d6, f', g', n2', p', pa', s', sa', sw', rp', mf', mg', mn', mb', ml', fo, z0, z1, ?_, hR, by omega, by omega⟩
  refine (jev_blk 1 (pc' := 852) (L' := LW m d5 d6) (S' := [.ref 0]) (h' := (jX f g n2 p pa s sa sw rp (jY mf mg mn mb ml (jOut fo)), (z0, z1, nn, xs))) rfl).trans ?_
  refine (lw_ld (k := 1) (kk := 1) (pc := 852) (pc1 := 856) (pc2 := 857) rfl rfl (fun _ => rfl) hl1 hn).trans ?_
  refine (lw_ld (k := 2) (kk := 2) (pc := 857) (pc1 := 861) (pc2 := 862) rfl rfl (fun _ => rfl) hl2 hn).trans ?_
  refine (lw_ld (k := 3) (kk := 3) (pc := 862) (pc1 := 866) (pc2 := 867) rfl rfl (fun _ => rfl) hl3 hn).trans ?_
  refine (lw_call (nx := 868) (rest := []) hc (jev_callb rfl)).trans ?_
  refine (jev_blk 1 (pc' := 869) (L' := LW m d5 d6) (S' := [.ref 79, .int r]) (h' := (jX f' g' n2' p' pa' s' sa' sw' rp' (jY mf mg mn mb ml (jOut fo)), (z0, z1, nn, xs))) rfl).trans ?_
  refine (lw_ld (k := 1) (kk := 1) (pc := 869) (pc1 := 873) (pc2 := 874) rfl rfl (fun _ => rfl) hl1 hn).trans ?_
  refine (lw_ld (k := 2) (kk := 2) (pc := 874) (pc1 := 878) (pc2 := 879) rfl rfl (fun _ => rfl) hl2 hn).trans ?_
  refine (lw_ld (k := 3) (kk := 3) (pc := 879) (pc1 := 883) (pc2 := 884) rfl rfl (fun _ => rfl) hl3 hn).trans ?_
  refine (lw_call (nx := 885) (rest := [.int r]) hm (jev_callb rfl)).trans ?_
  refine (jev_blk 1 (pc' := if r = r then 926 else 886) (L' := LW m d5 d6) (S' := []) (h' := (jX f' g' n2' p' pa' s' sa' sw' rp' (jY mf' mg' mn' mb' ml' (jOut fo)), (z0, z1, nn, xs))) rfl).trans ?_
  rw [if_pos rfl]
set_option maxRecDepth 20000 in
set_option maxHeartbeats 2000000 in
theorem W_30 {D m z0 z1 nn : Nat} {xs : Nat → Int32} {d5 d6 : Option Value} {fo : Nat → Int64} {f : Nat → Int32} {g : Nat → Nat → Int32} {n2 : Nat → Nat → Int64} {p : Nat → Nat → Int32} {pa : Nat → Nat → Nat → Int32} {s : Nat → Nat → Int32} {sa : Nat → Nat → Nat → Int32} {sw : Bool} {rp : Value} {mf : Nat → Int32} {mg : Nat → Nat → Int32} {mn : Nat → Nat → Int64} {mb : Nat → Nat → Int32} {ml : Nat → Int64} (hD : 119 ≤ D) (hl : m + 6 ≤ nn) (hn : nn < 2147483648) (h : RR f g p pa s sa sw mf mg mb) : jWo D m z0 z1 nn xs (jev D 245 888 (LW m d5 d6) [] (jX f g n2 p pa s sa sw rp (jY mf mg mn mb ml (jOut fo)), (z0, z1, nn, xs))) := by
  obtain ⟨r, f', g', n2', p', pa', s', sa', sw', rp', hc, hm0⟩ := A_undo (D := D) (n2 := n2) (rp := rp) (mn := mn) (ml := ml)  h (jY mf mg mn mb ml (jOut fo)) (z0, z1, nn, xs)
  obtain ⟨mf', mg', mn', mb', ml', hm, hR⟩ := hm0 (f', g', n2', p', pa', s', sa', sw', rp') (jOut fo) (z0, z1, nn, xs)
  refine ⟨d5, d6, f', g', n2', p', pa', s', sa', sw', rp', mf', mg', mn', mb', ml', fo, z0, z1, ?_, hR, by omega, by omega⟩
  refine (jev_blk 1 (pc' := 889) (L' := LW m d5 d6) (S' := [.ref 0]) (h' := (jX f g n2 p pa s sa sw rp (jY mf mg mn mb ml (jOut fo)), (z0, z1, nn, xs))) rfl).trans ?_
  refine (lw_call (nx := 890) (rest := []) hc (jev_callb rfl)).trans ?_
  refine (jev_blk 1 (pc' := 891) (L' := LW m d5 d6) (S' := [.ref 79, .int r]) (h' := (jX f' g' n2' p' pa' s' sa' sw' rp' (jY mf mg mn mb ml (jOut fo)), (z0, z1, nn, xs))) rfl).trans ?_
  refine (lw_call (nx := 892) (rest := [.int r]) hm (jev_callb rfl)).trans ?_
  refine (jev_blk 1 (pc' := if r = r then 926 else 893) (L' := LW m d5 d6) (S' := []) (h' := (jX f' g' n2' p' pa' s' sa' sw' rp' (jY mf' mg' mn' mb' ml' (jOut fo)), (z0, z1, nn, xs))) rfl).trans ?_
  rw [if_pos rfl]
set_option maxRecDepth 20000 in
set_option maxHeartbeats 2000000 in
theorem W_31 {D m z0 z1 nn : Nat} {xs : Nat → Int32} {d5 d6 : Option Value} {fo : Nat → Int64} {f : Nat → Int32} {g : Nat → Nat → Int32} {n2 : Nat → Nat → Int64} {p : Nat → Nat → Int32} {pa : Nat → Nat → Nat → Int32} {s : Nat → Nat → Int32} {sa : Nat → Nat → Nat → Int32} {sw : Bool} {rp : Value} {mf : Nat → Int32} {mg : Nat → Nat → Int32} {mn : Nat → Nat → Int64} {mb : Nat → Nat → Int32} {ml : Nat → Int64} (hD : 119 ≤ D) (hl : m + 6 ≤ nn) (hn : nn < 2147483648) (h : RR f g p pa s sa sw mf mg mb) : jWo D m z0 z1 nn xs (jev D 245 895 (LW m d5 d6) [] (jX f g n2 p pa s sa sw rp (jY mf mg mn mb ml (jOut fo)), (z0, z1, nn, xs))) := by
  obtain ⟨r, f', g', n2', p', pa', s', sa', sw', rp', hc, hm0⟩ := A_keep (D := D) (n2 := n2) (rp := rp) (mn := mn) (ml := ml)  h (jY mf mg mn mb ml (jOut fo)) (z0, z1, nn, xs)
  obtain ⟨mf', mg', mn', mb', ml', hm, hR⟩ := hm0 (f', g', n2', p', pa', s', sa', sw', rp') (jOut fo) (z0, z1, nn, xs)
  refine ⟨d5, d6, f', g', n2', p', pa', s', sa', sw', rp', mf', mg', mn', mb', ml', fo, z0, z1, ?_, hR, by omega, by omega⟩
  refine (jev_blk 1 (pc' := 896) (L' := LW m d5 d6) (S' := [.ref 0]) (h' := (jX f g n2 p pa s sa sw rp (jY mf mg mn mb ml (jOut fo)), (z0, z1, nn, xs))) rfl).trans ?_
  refine (lw_call (nx := 897) (rest := []) hc (jev_callb rfl)).trans ?_
  refine (jev_blk 1 (pc' := 898) (L' := LW m d5 d6) (S' := [.ref 79, .int r]) (h' := (jX f' g' n2' p' pa' s' sa' sw' rp' (jY mf mg mn mb ml (jOut fo)), (z0, z1, nn, xs))) rfl).trans ?_
  refine (lw_call (nx := 899) (rest := [.int r]) hm (jev_callb rfl)).trans ?_
  refine (jev_blk 1 (pc' := if r = r then 926 else 900) (L' := LW m d5 d6) (S' := []) (h' := (jX f' g' n2' p' pa' s' sa' sw' rp' (jY mf' mg' mn' mb' ml' (jOut fo)), (z0, z1, nn, xs))) rfl).trans ?_
  rw [if_pos rfl]
set_option maxRecDepth 20000 in
set_option maxHeartbeats 2000000 in
theorem W_32 {D m z0 z1 nn : Nat} {xs : Nat → Int32} {d5 d6 : Option Value} {fo : Nat → Int64} {f : Nat → Int32} {g : Nat → Nat → Int32} {n2 : Nat → Nat → Int64} {p : Nat → Nat → Int32} {pa : Nat → Nat → Nat → Int32} {s : Nat → Nat → Int32} {sa : Nat → Nat → Nat → Int32} {sw : Bool} {rp : Value} {mf : Nat → Int32} {mg : Nat → Nat → Int32} {mn : Nat → Nat → Int64} {mb : Nat → Nat → Int32} {ml : Nat → Int64} (hD : 119 ≤ D) (hl : m + 6 ≤ nn) (hn : nn < 2147483648) (h : RR f g p pa s sa sw mf mg mb) : jWo D m z0 z1 nn xs (jev D 245 902 (LW m d5 d6) [] (jX f g n2 p pa s sa sw rp (jY mf mg mn mb ml (jOut fo)), (z0, z1, nn, xs))) := by
  obtain ⟨r, f', g', n2', p', pa', s', sa', sw', rp', hc, hm0⟩ := A_back (D := D) (n2 := n2) (rp := rp) (mn := mn) (ml := ml)  h (jY mf mg mn mb ml (jOut fo)) (z0, z1, nn, xs)
  obtain ⟨mf', mg', mn', mb', ml', hm, hR⟩ := hm0 (f', g', n2', p', pa', s', sa', sw', rp') (jOut fo) (z0, z1, nn, xs)
  refine ⟨d5, d6, f', g', n2', p', pa', s', sa', sw', rp', mf', mg', mn', mb', ml', fo, z0, z1, ?_, hR, by omega, by omega⟩
  refine (jev_blk 1 (pc' := 903) (L' := LW m d5 d6) (S' := [.ref 0]) (h' := (jX f g n2 p pa s sa sw rp (jY mf mg mn mb ml (jOut fo)), (z0, z1, nn, xs))) rfl).trans ?_
  refine (lw_call (nx := 904) (rest := []) hc (jev_callb rfl)).trans ?_
  refine (jev_blk 1 (pc' := 905) (L' := LW m d5 d6) (S' := [.ref 79, .int r]) (h' := (jX f' g' n2' p' pa' s' sa' sw' rp' (jY mf mg mn mb ml (jOut fo)), (z0, z1, nn, xs))) rfl).trans ?_
  refine (lw_call (nx := 906) (rest := [.int r]) hm (jev_callb rfl)).trans ?_
  refine (jev_blk 1 (pc' := if r = r then 926 else 907) (L' := LW m d5 d6) (S' := []) (h' := (jX f' g' n2' p' pa' s' sa' sw' rp' (jY mf' mg' mn' mb' ml' (jOut fo)), (z0, z1, nn, xs))) rfl).trans ?_
  rw [if_pos rfl]
set_option maxRecDepth 20000 in
set_option maxHeartbeats 2000000 in
theorem W_33 {D m z0 z1 nn : Nat} {xs : Nat → Int32} {d5 d6 : Option Value} {fo : Nat → Int64} {f : Nat → Int32} {g : Nat → Nat → Int32} {n2 : Nat → Nat → Int64} {p : Nat → Nat → Int32} {pa : Nat → Nat → Nat → Int32} {s : Nat → Nat → Int32} {sa : Nat → Nat → Nat → Int32} {sw : Bool} {rp : Value} {mf : Nat → Int32} {mg : Nat → Nat → Int32} {mn : Nat → Nat → Int64} {mb : Nat → Nat → Int32} {ml : Nat → Int64} (hD : 119 ≤ D) (hl : m + 6 ≤ nn) (hn : nn < 2147483648) (h : RR f g p pa s sa sw mf mg mb) : jWo D m z0 z1 nn xs (jev D 245 909 (LW m d5 d6) [] (jX f g n2 p pa s sa sw rp (jY mf mg mn mb ml (jOut fo)), (z0, z1, nn, xs))) := by
  have hl1 : m + 1 < nn := by omega
  obtain ⟨r, f', g', n2', p', pa', s', sa', sw', rp', hc, hm0⟩ := A_count (D := D) (a := xs (m + 1)) (n2 := n2) (rp := rp) (mn := mn) (ml := ml)  h (jY mf mg mn mb ml (jOut fo)) (z0, z1, nn, xs)
  obtain ⟨mf', mg', mn', mb', ml', hm, hR⟩ := hm0 (f', g', n2', p', pa', s', sa', sw', rp') (jOut fo) (z0, z1, nn, xs)
  refine ⟨d5, d6, f', g', n2', p', pa', s', sa', sw', rp', mf', mg', mn', mb', ml', fo, z0, z1, ?_, hR, by omega, by omega⟩
  refine (jev_blk 1 (pc' := 910) (L' := LW m d5 d6) (S' := [.ref 0]) (h' := (jX f g n2 p pa s sa sw rp (jY mf mg mn mb ml (jOut fo)), (z0, z1, nn, xs))) rfl).trans ?_
  refine (lw_ld (k := 1) (kk := 1) (pc := 910) (pc1 := 914) (pc2 := 915) rfl rfl (fun _ => rfl) hl1 hn).trans ?_
  refine (lw_call (nx := 916) (rest := []) hc (jev_callb rfl)).trans ?_
  refine (jev_blk 1 (pc' := 917) (L' := LW m d5 d6) (S' := [.ref 79, .int r]) (h' := (jX f' g' n2' p' pa' s' sa' sw' rp' (jY mf mg mn mb ml (jOut fo)), (z0, z1, nn, xs))) rfl).trans ?_
  refine (lw_ld (k := 1) (kk := 1) (pc := 917) (pc1 := 921) (pc2 := 922) rfl rfl (fun _ => rfl) hl1 hn).trans ?_
  refine (lw_call (nx := 923) (rest := [.int r]) hm (jev_callb rfl)).trans ?_
  refine (jev_blk 1 (pc' := if r = r then 926 else 924) (L' := LW m d5 d6) (S' := []) (h' := (jX f' g' n2' p' pa' s' sa' sw' rp' (jY mf' mg' mn' mb' ml' (jOut fo)), (z0, z1, nn, xs))) rfl).trans ?_
  rw [if_pos rfl]
