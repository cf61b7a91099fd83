-- THE LAW: its loop (printed by genlawloop.py)
def jlwS : List (Int32 × Nat) := [(0, 25), (1, 82), (2, 99), (3, 116), (4, 133), (5, 178), (6, 205), (7, 222), (8, 249), (9, 287), (10, 332), (11, 367), (12, 394), (13, 411), (14, 438), (15, 455), (16, 492), (17, 499), (18, 526), (19, 563), (20, 600), (21, 617), (22, 624), (23, 681), (24, 708), (25, 763), (26, 780), (27, 797), (28, 814), (29, 851), (30, 888), (31, 895), (32, 902), (33, 909)]
theorem jand63 (x : Int32) : ∃ k, k < 64 ∧ x &&& 63 = Int32.ofNat k := by
  refine ⟨x.toBitVec.toNat &&& 63, Nat.lt_of_le_of_lt Nat.and_le_right (by omega), ?_⟩
  apply Int32.toBitVec_inj.mp
  apply BitVec.eq_of_toNat_eq
  have h : x.toBitVec.toNat &&& 63 ≤ 63 := Nat.and_le_right
  show (x.toBitVec &&& 63#32).toNat = (BitVec.ofNat 32 (x.toBitVec.toNat &&& 63)).toNat
  have e2 : (BitVec.ofNat 32 (x.toBitVec.toNat &&& 63)).toNat = x.toBitVec.toNat &&& 63 := by rw [BitVec.toNat_ofNat, Nat.mod_eq_of_lt (by omega)]
  rw [e2, BitVec.toNat_and]
  rfl
set_option maxHeartbeats 2000000 in
theorem W_sw {D m z0 z1 nn : Nat} {xs : Nat → Int32} {d5 d6 : Option Value} {fo : Nat → Int64} {f : Nat → Int32} {g : Nat → Nat → Int32} {n2 : Nat → Nat → Int64} {p : Nat → Nat → Int32} {pa : Nat → Nat → Nat → Int32} {s : Nat → Nat → Int32} {sa : Nat → Nat → Nat → Int32} {sw : Bool} {rp : Value} {mf : Nat → Int32} {mg : Nat → Nat → Int32} {mn : Nat → Nat → Int64} {mb : Nat → Nat → Int32} {ml : Nat → Int64} (hD : 119 ≤ D) (hl : m + 6 ≤ nn) (hn : nn < 2147483648) (h : RR f g p pa s sa sw mf mg mb) : ∀ k, k < 64 → jWo D m z0 z1 nn xs (jev D 245 (jsw jlwS 926 (Int32.ofNat k)) (LW m d5 d6) [] (jX f g n2 p pa s sa sw rp (jY mf mg mn mb ml (jOut fo)), (z0, z1, nn, xs)))
  | 0, _ => (show jsw jlwS 926 (Int32.ofNat 0) = 25 by decide) ▸ W_0 hD hl hn h
  | 1, _ => (show jsw jlwS 926 (Int32.ofNat 1) = 82 by decide) ▸ W_1 hD hl hn h
  | 2, _ => (show jsw jlwS 926 (Int32.ofNat 2) = 99 by decide) ▸ W_2 hD hl hn h
  | 3, _ => (show jsw jlwS 926 (Int32.ofNat 3) = 116 by decide) ▸ W_3 hD hl hn h
  | 4, _ => (show jsw jlwS 926 (Int32.ofNat 4) = 133 by decide) ▸ W_4 hl hn h
  | 5, _ => (show jsw jlwS 926 (Int32.ofNat 5) = 178 by decide) ▸ W_5 hD hl hn h
  | 6, _ => (show jsw jlwS 926 (Int32.ofNat 6) = 205 by decide) ▸ W_6 hD hl hn h
  | 7, _ => (show jsw jlwS 926 (Int32.ofNat 7) = 222 by decide) ▸ W_7 hD hl hn h
  | 8, _ => (show jsw jlwS 926 (Int32.ofNat 8) = 249 by decide) ▸ W_8 hD hl hn h
  | 9, _ => (show jsw jlwS 926 (Int32.ofNat 9) = 287 by decide) ▸ W_9 hD hl hn h
  | 10, _ => (show jsw jlwS 926 (Int32.ofNat 10) = 332 by decide) ▸ W_10 hD hl hn h
  | 11, _ => (show jsw jlwS 926 (Int32.ofNat 11) = 367 by decide) ▸ W_11 hD hl hn h
  | 12, _ => (show jsw jlwS 926 (Int32.ofNat 12) = 394 by decide) ▸ W_12 hD hl hn h
  | 13, _ => (show jsw jlwS 926 (Int32.ofNat 13) = 411 by decide) ▸ W_13 hD hl hn h
  | 14, _ => (show jsw jlwS 926 (Int32.ofNat 14) = 438 by decide) ▸ W_14 hD hl hn h
  | 15, _ => (show jsw jlwS 926 (Int32.ofNat 15) = 455 by decide) ▸ W_15 hD hl hn h
  | 16, _ => (show jsw jlwS 926 (Int32.ofNat 16) = 492 by decide) ▸ W_16 hD hl hn h
  | 17, _ => (show jsw jlwS 926 (Int32.ofNat 17) = 499 by decide) ▸ W_17 hD hl hn h
  | 18, _ => (show jsw jlwS 926 (Int32.ofNat 18) = 526 by decide) ▸ W_18 hD hl hn h
  | 19, _ => (show jsw jlwS 926 (Int32.ofNat 19) = 563 by decide) ▸ W_19 hD hl hn h
  | 20, _ => (show jsw jlwS 926 (Int32.ofNat 20) = 600 by decide) ▸ W_20 hD hl hn h
  | 21, _ => (show jsw jlwS 926 (Int32.ofNat 21) = 617 by decide) ▸ W_21 hD hl hn h
  | 22, _ => (show jsw jlwS 926 (Int32.ofNat 22) = 624 by decide) ▸ W_22 hD hl hn h
  | 23, _ => (show jsw jlwS 926 (Int32.ofNat 23) = 681 by decide) ▸ W_23 hD hl hn h
  | 24, _ => (show jsw jlwS 926 (Int32.ofNat 24) = 708 by decide) ▸ W_24 hD hl hn h
  | 25, _ => (show jsw jlwS 926 (Int32.ofNat 25) = 763 by decide) ▸ W_25 hD hl hn h
  | 26, _ => (show jsw jlwS 926 (Int32.ofNat 26) = 780 by decide) ▸ W_26 hD hl hn h
  | 27, _ => (show jsw jlwS 926 (Int32.ofNat 27) = 797 by decide) ▸ W_27 hD hl hn h
  | 28, _ => (show jsw jlwS 926 (Int32.ofNat 28) = 814 by decide) ▸ W_28 hD hl hn h
  | 29, _ => (show jsw jlwS 926 (Int32.ofNat 29) = 851 by decide) ▸ W_29 hD hl hn h
  | 30, _ => (show jsw jlwS 926 (Int32.ofNat 30) = 888 by decide) ▸ W_30 hD hl hn h
  | 31, _ => (show jsw jlwS 926 (Int32.ofNat 31) = 895 by decide) ▸ W_31 hD hl hn h
  | 32, _ => (show jsw jlwS 926 (Int32.ofNat 32) = 902 by decide) ▸ W_32 hD hl hn h
  | 33, _ => (show jsw jlwS 926 (Int32.ofNat 33) = 909 by decide) ▸ W_33 hD hl hn h
  | k + 34, hk => by
    have e : jsw jlwS 926 (Int32.ofNat (k + 34)) = 926 := by
      have key : ∀ j, j < 30 → jsw jlwS 926 (Int32.ofNat (j + 34)) = 926 := by decide
      exact key k (by omega)
    rw [e]
    exact ⟨d5, d6, f, g, n2, p, pa, s, sa, sw, rp, mf, mg, mn, mb, ml, fo, z0, z1, rfl, h, by omega, by omega⟩
set_option maxRecDepth 20000 in
theorem W_head {D m nn z0 z1 : Nat} {xs : Nat → Int32} {d5 d6 : Option Value} {c : List jE} (hn : nn < 2147483648) (hm : m < 2147483648) :
    jev D 245 13 (LW m d5 d6) [] (c, (z0, z1, nn, xs)) = if m + 6 ≤ nn then jev D 245 (jsw jlwS 926 (xs m &&& 63)) (LW m d5 d6) [] (c, (z0, z1, nn, xs)) else some (.inl (some (.int 1)), (c, (z0, z1, nn, xs))) := by
  refine (jev_blk 6 (pc' := if Int32.ofNat nn - 6 < Int32.ofNat m then 928 else 19) (L' := LW m d5 d6) (S' := []) (h' := (c, (z0, z1, nn, xs))) rfl).trans ?_
  have hdec : (Int32.ofNat nn - 6 < Int32.ofNat m) = ¬ (m + 6 ≤ nn) := by
    rw [Int32.lt_iff_toInt_lt, Int32.toInt_sub]
    have e1 : (Int32.ofNat nn).toInt = nn := jtoInt hn
    have e2 : (Int32.ofNat m).toInt = m := jtoInt hm
    have e3 : (6 : Int32).toInt = 6 := by decide
    rw [e1, e2, e3]
    have e4 : ((nn : Int) - 6).bmod (2 ^ 32) = (nn : Int) - 6 := by
      rw [Int.bmod_def]
      omega
    rw [e4]
    apply propext
    omega
  by_cases hl : m + 6 ≤ nn
  · rw [if_pos hl, if_neg (by rw [hdec]; exact fun e => e hl)]
    refine (jev_blk 2 (pc' := 21) (L' := LW m d5 d6) (S' := [.int (Int32.ofNat m), .retAddr 0]) (h' := (c, (z0, z1, nn, xs))) rfl).trans ?_
    refine (jev_grd (q := jout (Int32.ofNat m) nn) (pc' := 22) (L' := LW m d5 d6) (S' := [.int (xs (Int32.ofNat m).toNatClampNeg)]) (h' := (c, (z0, z1, nn, xs))) rfl).trans ?_
    rw [if_neg (jout_n (by omega) (by omega)), jclamp hm]
    exact jev_blk 3 rfl
  · rw [if_neg hl, if_pos (by rw [hdec]; exact hl)]
    refine (jev_blk 1 (pc' := 929) (L' := LW m d5 d6) (S' := [.int 1]) (h' := (c, (z0, z1, nn, xs))) rfl).trans ?_
    exact jev_fin rfl
set_option maxRecDepth 20000 in
theorem W_next {D m nn z0 z1 : Nat} {xs : Nat → Int32} {d5 d6 : Option Value} {c : List jE} : jev D 245 926 (LW m d5 d6) [] (c, (z0, z1, nn, xs)) = jev D 245 13 (LW (m + 6) d5 d6) [] (c, (z0, z1, nn, xs)) := by
  refine (jev_blk 2 (pc' := 13) (L' := ([some (.retAddr 0), some (.ref 0), some (.ref 79), some (.ref 118), some (.int (Int32.ofNat m + 6)), d5, d6], [])) (S' := []) (h' := (c, (z0, z1, nn, xs))) rfl).trans ?_
  rw [show Int32.ofNat m + 6 = Int32.ofNat (m + 6) from jofadd]
theorem W_run {D nn : Nat} {xs : Nat → Int32} (hD : 119 ≤ D) (hn : nn < 2147483000) : ∀ (r m z0 z1 : Nat) {d5 d6 : Option Value} {fo : Nat → Int64} {f : Nat → Int32} {g : Nat → Nat → Int32} {n2 : Nat → Nat → Int64} {p : Nat → Nat → Int32} {pa : Nat → Nat → Nat → Int32} {s : Nat → Nat → Int32} {sa : Nat → Nat → Nat → Int32} {sw : Bool} {rp : Value} {mf : Nat → Int32} {mg : Nat → Nat → Int32} {mn : Nat → Nat → Int64} {mb : Nat → Nat → Int32} {ml : Nat → Int64}, nn ≤ m + 6 * r → m ≤ nn + 6 → RR f g p pa s sa sw mf mg mb →
    ∃ h', jev D 245 13 (LW m d5 d6) [] (jX f g n2 p pa s sa sw rp (jY mf mg mn mb ml (jOut fo)), (z0, z1, nn, xs)) = some (.inl (some (.int 1)), h') ∧ h'.2.1 ≤ z0 + r ∧ h'.2.2.1 ≤ z1 + 6 * r := by
  intro r
  induction r with
  | zero =>
    intro m z0 z1 d5 d6 fo f g n2 p pa s sa sw rp mf mg mn mb ml hr hm h
    rw [W_head (by omega) (by omega), if_neg (by omega)]
    exact ⟨_, rfl, Nat.le_refl _, Nat.le_refl _⟩
  | succ r ih =>
    intro m z0 z1 d5 d6 fo f g n2 p pa s sa sw rp mf mg mn mb ml hr hm h
    rw [W_head (by omega) (by omega)]
    by_cases hl : m + 6 ≤ nn
    · rw [if_pos hl]
      obtain ⟨k, hk, he⟩ := jand63 (xs m)
      rw [he]
      obtain ⟨d5', d6', f', g', n2', p', pa', s', sa', sw', rp', mf', mg', mn', mb', ml', fo', y0, y1, hj, hR, h0, h1⟩ := W_sw (D := D) (m := m) (z0 := z0) (z1 := z1) (xs := xs) (d5 := d5) (d6 := d6) (fo := fo) (n2 := n2) (rp := rp) (mn := mn) (ml := ml) hD hl (by omega) h k hk
      rw [hj, W_next]
      obtain ⟨h', hh, b0, b1⟩ := ih (m + 6) y0 y1 (d5 := d5') (d6 := d6') (fo := fo') (n2 := n2') (rp := rp') (mn := mn') (ml := ml') (by omega) (by omega) hR
      exact ⟨h', hh, by omega, by omega⟩
    · rw [if_neg hl]
      exact ⟨_, rfl, by show z0 ≤ _; omega, by show z1 ≤ _; omega⟩
