-- READING LINES: a scare
theorem tk_name {kd vl so va : Int32} (h : rTk kd vl so va) : (kd = 3 ↔ so = 1) ∧ (kd = 3 → va = vl) := by
  rcases h with ⟨h1, h2⟩ | ⟨h1, h2⟩ | ⟨h1, h2, -⟩ | ⟨h1, h2, h3⟩ | ⟨h1, h2, -⟩ | ⟨h1, h2, -⟩ <;> subst h1 h2
  · exact ⟨by decide, fun q => absurd q (by decide)⟩
  · exact ⟨by decide, fun q => absurd q (by decide)⟩
  · exact ⟨by decide, fun q => absurd q (by decide)⟩
  · exact ⟨by decide, fun _ => h3⟩
  · exact ⟨by decide, fun q => absurd q (by decide)⟩
  · exact ⟨by decide, fun q => absurd q (by decide)⟩
theorem L_scare {D D' N : Nat} {f : Nat → Int32} {g : Nat → Nat → Int32} {n2 : Nat → Nat → Int64} {p : Nat → Nat → Int32} {pa : Nat → Nat → Nat → Int32} {s : Nat → Nat → Int32} {sa : Nat → Nat → Nat → Int32} {sw : Bool} {t : List jE} {z : Nat × Nat × Nat × (Nat → Int32)} {w : Bool} {cx : jCX} {mf : Nat → Int32} {mg : Nat → Nat → Int32} {mn : Nat → Nat → Int64} {mb : Nat → Nat → Int32} {ml : Nat → Int64} {t1 : List jE} {z1 : Nat × Nat × Nat × (Nat → Int32)} (h : rLn N g f (p (jq w)) (pa (jq w)) mf mg) (h7 : mf 7 = 0) (h8 : mf 8 = 2) : ((∃ f' p' pa' mf' mg' d', K_r_readScare D w f g n2 p pa s sa sw t z = some (.inl (some (.int 1)), (jX f' g n2 p' pa' s sa sw (.ref (jpl w)) t, z)) ∧ K_m_line D' cx mf mg mn mb ml t1 z1 = K_m_line_149 D' d' cx mf' mg' mn mb ml t1 z1 ∧ lF (jq w) f p pa mf mg f' p' pa' mf' mg' ∧ rLn N g f' (p' (jq w)) (pa' (jq w)) mf' mg') ∨ (∃ f' p' pa' mf' mg', K_r_readScare D w f g n2 p pa s sa sw t z = some (.inl (some (.int 0)), (jX f' g n2 p' pa' s sa sw (.ref (jpl w)) t, z)) ∧ K_m_line D' cx mf mg mn mb ml t1 z1 = some (.inl none, (jXt cx (jY mf' mg' mn mb ml t1), z1)) ∧ lF (jq w) f p pa mf mg f' p' pa' mf' mg' ∧ ¬ mf' 9 = 0 ∧ f' 7 = mf' 9 ∧ f' 8 = mf' 10)) := by
  have n10 : ¬ (1 : Int32) = 0 := by decide
  obtain ⟨W, H, Sc, fl, Wn, kn, cr, h1, h2, h3, h13, hT, hN, hC, hS, hW, hL⟩ := id h
  obtain ⟨q0, ⟨q1, q1', hW1, hW6⟩, ⟨q2, q2', hH1, hH5⟩, ⟨q3, q3', hS6⟩, q4, q6, q7, q5, q8, q9, q10⟩ := id hN
  have fr2 : ∀ m : Nat → Int32, K_m_fresher D' 2 cx m mg mn mb ml t1 z1 = some (.inl (some (.int (Int32.ofNat Sc))), (jXt cx (jY m mg mn mb ml t1), z1)) := by
    intro m
    have := M_fresher (D := D') (x := 2) (cx := cx) (f := m) (g := mg) (n := mn) (b := mb) (l := ml) (t := t1) (z := z1) (by omega)
    rw [show (11 + 2 : Nat) = 13 from rfl, q3'] at this
    exact this
  have hfr := fr2 mf
  have hfull : K_m_isFull D' 2 cx mf mg mn mb ml t1 z1 = if Int32.ofNat Sc = 6 then some (.inl (some (.int 1)), (jXt cx (jY mf mg mn mb ml t1), z1)) else some (.inl (some (.int 0)), (jXt cx (jY mf mg mn mb ml t1), z1)) := by
    simp +decide only [E_m_isFull, E_m_isFull_8, E_m_isFull_16, E_m_isFull_24, if_false, if_true, hfr, jbO_some, jbO_none, jbO_ite, jk_some, jk_none, E_m_isFull_14]
  have honce : K_m_isOnce D' 2 cx mf mg mn mb ml t1 z1 = some (.inl (some (.int 0)), (jXt cx (jY mf mg mn mb ml t1), z1)) := by simp +decide only [E_m_isOnce, if_false]
  rw [E_m_line, if_pos h7, h8, if_neg (by decide), hfull, E_r_readScare, q3]
  by_cases hf : Sc < 6
  rotate_left
  · right
    have hSc : Sc = 6 := by omega
    obtain ⟨x3, x4, x5, x6⟩ := lfail (v := jq w) (k := 2) (p := p) (pa := pa) (mg := mg) h1 (by decide)
    refine ⟨_, p, pa, _, mg, ?_, ?_, x3, x4, x5, x6⟩
    · rw [if_neg (show ¬ Int32.ofNat Sc < 6 from jlt_n (b := 6) (by omega) (by omega)), E_r_fail, jbO_some, jk_some, E_r_readScare_10, if_pos (Or.inl rfl)]
    · rw [if_pos (by rw [hSc]; rfl), jbO_some, jk_some, E_m_line_17, if_neg n10, M_wrong h3, jbO_some, jk_none, E_m_line_21, B_line_49 x4]
  have hn6 : ¬ Int32.ofNat Sc = 6 := by intro q; have := jofinj (b := 6) (by omega) (by omega) q; omega
  rw [if_pos (show Int32.ofNat Sc < 6 from jlt_t (b := 6) hf (by omega)), if_neg hn6, jbO_some, jk_some, E_m_line_17, if_pos rfl, honce, jbO_some, jk_some, E_m_line_24, if_pos rfl, E_m_line_37, if_neg (by decide), E_m_line_49, if_pos h3]
  have hT0 : rTok N (jup f 5 1) (jup mf 2 (mf 2 ||| ((1 : Int32) <<< (2 &&& 31)))) := rTok_c (fun k a b => jup_ne (by omega)) (fun k a b => jup_ne (by omega)) h1
  have hF1 : lF (jq w) f p pa mf mg (jup f 5 1) p pa (jup mf 2 (mf 2 ||| ((1 : Int32) <<< (2 &&& 31)))) mg := lF.up (fun k hk => jup_ne (by omega)) (fun _ _ => rfl) (fun _ _ => rfl) (fun k hk => jup_ne (by omega)) lH.rf
  obtain ⟨f1, mf1, s1, s2, s3, s4, s5, -, s7, -⟩ := L_step (D := D) (D' := D') (f := jup f 5 1) (g := g) (n2 := n2) (p := p) (pa := pa) (s := s) (sa := sa) (sw := sw) (rp := .ref (jpl w)) (t := t) (z := z) (cx := cx) (mf := jup mf 2 (mf 2 ||| ((1 : Int32) <<< (2 &&& 31)))) (mg := mg) (mn := mn) (mb := mb) (ml := ml) (t1 := t1) (z1 := z1) hT0 h2
  have m19 : mf1 9 = 0 := by rw [s5 9 (by omega), jup_ne (by omega)]; exact h3
  have hix6 : (6 : Int32) + Int32.ofNat Sc = Int32.ofNat (6 + Sc) := jofadd (a := 6)
  have h63 : jev D' 160 63 ([some (.ref 79), some (.int 2)], []) [] ((jXt cx (jY mf1 mg mn mb ml t1), z1)) = jbO (jbO (K_m_fresh D' 6 (Int32.ofNat Sc) cx mf1 mg mn mb ml t1 z1) (jk D' 162 11 ([some (.ref 79), some (.int (Int32.ofNat (6 + Sc)))], []) [.int (Int32.ofNat (6 + Sc)), .ref 83])) (jk D' 160 90 ([some (.ref 79), some (.int 2)], []) []) := by
    rw [E_m_line_63]
    simp +decide only [if_false, if_true]
    rw [fr2, jbO_some, jk_some, E_m_line_88, hix6, E_m_scareLine, fr2, jbO_some, jk_some, E_m_scareLine_10]
  rw [s1, jbO_some, jk_none, E_r_readScare_17, s2, jbO_some, jk_none, h63]
  have hF2 := hF1.tr (s7 (jq w))
  have hend : ∀ (m : Nat → Int32) (gg : Nat → Nat → Int32), ¬ m 9 = 0 → jbO (some (.inl none, (jXt cx (jY m gg mn mb ml t1), z1))) (jk D' 160 90 ([some (.ref 79), some (.int 2)], []) []) = some (.inl none, (jXt cx (jY m gg mn mb ml t1), z1)) := by
    intro m gg hm; rw [jbO_some, jk_none, E_m_line_90, B_line_149 hm]
  have b24 : ∀ (m : Nat → Int32), ¬ m 9 = 0 → K_m_fresh_24 D' (some (.ref 83)) (some (.int 6)) (some (.int (Int32.ofNat Sc))) none cx m mg mn mb ml t1 z1 = some (.inl (some (.int 0)), (jXt cx (jY m mg mn mb ml t1), z1)) := by
    intro m hm; rw [E_m_fresh_24, if_neg hm]
  have hnm := tk_name s3.2.2
  by_cases hk3 : f1 11 = 3
  rotate_left
  · right
    obtain ⟨x3, x4, x5, x6⟩ := lfail (v := jq w) (k := 1) (p := p) (pa := pa) (mg := mg) s3 (by decide)
    obtain ⟨g', e, hl⟩ := B_scare_11 (D := D') (i := Sc) (Sc := Sc) (v := 0) (cx := cx) (f := jup (jup mf1 10 (mf1 6)) 9 1) (g := mg) (n := mn) (b := mb) (l := ml) (t := t1) (z := z1) x4 hf q3'
    refine ⟨_, p, pa, _, g', ?_, ?_, (hF2.tr x3).tr (lF.up (fun _ _ => rfl) (fun _ _ => rfl) (fun _ _ => rfl) (fun _ _ => rfl) hl), x4, x5, x6⟩
    · rw [if_neg hk3, E_r_fail, jbO_some, jk_some, E_r_readScare_25, if_pos (Or.inl rfl)]
    · rw [E_m_fresh, if_pos m19, if_neg (fun q => hk3 (hnm.1.mpr q)), M_wrong m19, jbO_some, jk_none, E_m_fresh_12, b24 _ x4, jbO_some, jk_some, e]; exact hend _ _ x4
  have hm1 : mf1 7 = 1 := hnm.1.mp hk3
  have hmv : mf1 8 = f1 12 := hnm.2 hk3
  obtain ⟨u, c1, c2, c3⟩ := L_find (D := D) (D' := D') (x := f1 12) (w := w) (f := f1) (g := g) (n2 := n2) (p := p) (pa := pa) (s := s) (sa := sa) (sw := sw) (rp := .ref (jpl w)) (t := t) (z := z) (cx := cx) (mf := mf1) (mg := mg) (mn := mn) (mb := mb) (ml := ml) (t1 := t1) (z1 := z1) q3 hS6 (fun i hi => (hS.1 i hi).1)
  rw [if_pos hk3, c1, jbO_some, jk_some, E_r_readScare_32, E_m_fresh, if_pos m19, if_pos hm1, hmv, c2, jbO_some, jk_some, E_m_fresh_19]
  by_cases hu : u = -1
  rotate_left
  · right
    obtain ⟨x3, x4, x5, x6⟩ := lfail (v := jq w) (k := 3) (p := p) (pa := pa) (mg := mg) s3 (by decide)
    obtain ⟨g', e, hl⟩ := B_scare_11 (D := D') (i := Sc) (Sc := Sc) (v := 0) (cx := cx) (f := jup (jup mf1 10 (mf1 6)) 9 3) (g := mg) (n := mn) (b := mb) (l := ml) (t := t1) (z := z1) x4 hf q3'
    refine ⟨_, p, pa, _, g', ?_, ?_, (hF2.tr x3).tr (lF.up (fun _ _ => rfl) (fun _ _ => rfl) (fun _ _ => rfl) (fun _ _ => rfl) hl), x4, x5, x6⟩
    · rw [if_neg hu, E_r_fail, jbO_some, jk_some, E_r_readScare_37, if_pos (Or.inl rfl)]
    · rw [if_neg hu, M_wrong m19, jbO_some, jk_none, F_m_fresh_24, b24 _ x4, jbO_some, jk_some, e]; exact hend _ _ x4
  obtain ⟨f2, mf2, e1, e2, e3, e4, e5, -, e7, -⟩ := L_step (D := D) (D' := D') (f := f1) (g := g) (n2 := n2) (p := p) (pa := pa) (s := s) (sa := sa) (sw := sw) (rp := .ref (jpl w)) (t := t) (z := z) (cx := cx) (mf := mf1) (mg := mg) (mn := mn) (mb := mb) (ml := ml) (t1 := t1) (z1 := z1) s3 h2
  have m29 : mf2 9 = 0 := by rw [e5 9 (by omega)]; exact m19
  have hF3 := hF2.tr (e7 (jq w))
  have htake : K_r_take D w f1 g n2 p pa s sa sw t z = some (.inl (some (.int (f1 12))), (jX f2 g n2 p pa s sa sw (.ref (jpl w)) t, z)) := by rw [E_r_take, e1, jbO_some, jk_none, E_r_take_7]
  have hjo : ¬ jout (Int32.ofNat Sc) 6 := jout_n hf (by omega)
  have hcl : (Int32.ofNat Sc).toNatClampNeg = Sc := jclamp (by omega)
  have hjo2 : ¬ jout (Int32.ofNat (6 + Sc)) 12 := jout_n (by omega) (by omega)
  have hcl2 : (Int32.ofNat (6 + Sc)).toNatClampNeg = 6 + Sc := jclamp (by omega)
  rw [if_pos hu, htake, jbO_some, jk_some, E_r_readScare_44, if_neg hjo, hcl, if_pos hu, E_m_fresh_24, if_pos m19, e2, jbO_some, jk_none, E_m_fresh_34, hmv, jbO_some, jk_some, E_m_scareLine_11, if_neg hjo2, hcl2]
  have u3 : ∀ (mg : Nat → Nat → Int32) (k : Nat) (v : Int32), 3 ≤ k → k ≤ 8 → lH mg (jup mg k (jup (mg k) (6 + Sc) v)) := fun mg k v a b => lH.up (Or.inr (Or.inr (Or.inl ⟨a, b, by omega⟩)))
  have hF4 : lF (jq w) f p pa mf mg f2 p (jup pa (jq w) (jup (pa (jq w)) 1 (jup (pa (jq w) 1) Sc (f1 12)))) mf2 (jup mg 3 (jup (mg 3) (6 + Sc) (f1 12))) := hF3.tr (lF.up (fun _ _ => rfl) (fun _ _ => rfl) (fun j hj => jup_ne hj) (fun _ _ => rfl) (u3 mg 3 _ (by omega) (by omega)))
  rcases L_cell (D := D) (D' := D') (f := f2) (g := g) (n2 := n2) (p := p) (pa := jup pa (jq w) (jup (pa (jq w)) 1 (jup (pa (jq w) 1) Sc (f1 12)))) (s := s) (sa := sa) (sw := sw) (t := t) (z := z) (w := w) (cx := cx) (mf := mf2) (mg := jup mg 3 (jup (mg 3) (6 + Sc) (f1 12))) (mn := mn) (mb := mb) (ml := ml) (t1 := t1) (z1 := z1) e3 (rTp_c (jup_ne (by omega)) h2) m29 q1 q2 (by rw [jup_ne (by omega)]; exact q1') (by rw [jup_ne (by omega)]; exact q2') hW1 hW6 hH1 hH5 with ⟨x, y, f3, mf3, hx, hy, i1, i2, i3, i12, i4, i5, i6, i7, i8⟩ | ⟨f3, mf3, i1, i4, i8, b1, b2, b3⟩ | ⟨x, f3, f4, mf4, i1, i2, i3, i4, i8, b1, b2, b3⟩
  rotate_left
  · right
    obtain ⟨g', e, hl⟩ := B_scare_17 (D := D') (i := Sc) (Sc := Sc) (v := 0) (cx := cx) (f := mf3) (g := jup mg 3 (jup (mg 3) (6 + Sc) (f1 12))) (n := mn) (b := mb) (l := ml) (t := t1) (z := z1) b1 hf (by rw [jup_ne (by omega)]; exact q3')
    refine ⟨f3, p, _, mf3, g', ?_, ?_, (hF4.tr (i8 _)).tr (lF.up (fun _ _ => rfl) (fun _ _ => rfl) (fun _ _ => rfl) (fun _ _ => rfl) hl), b1, b2, b3⟩
    · rw [i1, jbO_some, jk_some, E_r_readScare_53, if_pos rfl]
    · rw [i4, jbO_some, jk_some, e]; exact hend _ _ b1
  · right
    obtain ⟨g', e, hl⟩ := B_scare_17 (D := D') (i := Sc) (Sc := Sc) (v := 0) (cx := cx) (f := mf4) (g := jup mg 3 (jup (mg 3) (6 + Sc) (f1 12))) (n := mn) (b := mb) (l := ml) (t := t1) (z := z1) b1 hf (by rw [jup_ne (by omega)]; exact q3')
    refine ⟨f4, p, _, mf4, g', ?_, ?_, (hF4.tr (i8 _)).tr (lF.up (fun _ _ => rfl) (fun _ _ => rfl) (fun _ _ => rfl) (fun _ _ => rfl) hl), b1, b2, b3⟩
    · rw [i1, jbO_some, jk_some, E_r_readScare_53, if_neg n10, i2, jbO_some, jk_some, E_r_readScare_58, i3, jbO_some, jk_some, E_r_readScare_67, if_pos rfl]
    · rw [i4, jbO_some, jk_some, e]; exact hend _ _ b1
  have hcl3 := (cell_lt hx hy hW6 hH5).1
  generalize hcell : y * W + x = c at hcl3 i4
  have m39 : mf3 9 = 0 := by rw [i7 9 (by omega)]; exact m29
  obtain ⟨f4, mf4, r1, r2, r3, r4, r5, -, r7, -⟩ := L_step (D := D) (D' := D') (f := f3) (g := g) (n2 := n2) (p := p) (pa := jup pa (jq w) (jup (pa (jq w)) 1 (jup (pa (jq w) 1) Sc (f1 12)))) (s := s) (sa := sa) (sw := sw) (rp := .ref (jpl w)) (t := t) (z := z) (cx := cx) (mf := mf3) (mg := jup (jup mg 3 (jup (mg 3) (6 + Sc) (f1 12))) 4 (jup (mg 4) (6 + Sc) (Int32.ofNat c))) (mn := mn) (mb := mb) (ml := ml) (t1 := t1) (z1 := z1) i5 (rTp_c (by rw [jup_ne (by omega), jup_ne (by omega)]) h2)
  have m49 : mf4 9 = 0 := by rw [r5 9 (by omega)]; exact m39
  have htake2 : K_r_take D w f3 g n2 p (jup pa (jq w) (jup (pa (jq w)) 1 (jup (pa (jq w) 1) Sc (f1 12)))) s sa sw t z = some (.inl (some (.int (Int32.ofNat y))), (jX f4 g n2 p (jup pa (jq w) (jup (pa (jq w)) 1 (jup (pa (jq w) 1) Sc (f1 12)))) s sa sw (.ref (jpl w)) t, z)) := by rw [E_r_take, r1, jbO_some, jk_none, E_r_take_7, i12]
  have u4 := u3 (jup mg 3 (jup (mg 3) (6 + Sc) (f1 12))) 4 (Int32.ofNat c) (by omega) (by omega)
  rw [jup_ne (show (4 : Nat) ≠ 3 by omega)] at u4
  have hval : Int32.ofNat y * p (jq w) 1 + Int32.ofNat x = Int32.ofNat c := by rw [q1, jofmul, jofadd, hcell]
  have hp3 : jup p (jq w) (jup (p (jq w)) 3 (p (jq w) 3 + 1)) = jup p (jq w) (jup (p (jq w)) 3 (Int32.ofNat (Sc + 1))) := by rw [q3, jsucc]
  rw [i1, jbO_some, jk_some, E_r_readScare_53, if_neg n10, i2, jbO_some, jk_some, E_r_readScare_58, i3, jbO_some, jk_some, E_r_readScare_67, if_neg n10, htake2, jbO_some, jk_some, E_r_readScare_76, if_neg hjo, hcl, hval, E_r_readScare_88, if_neg hjo, hcl, hp3, jup_same, jup_jup, jup_ne (show (2 : Nat) ≠ 1 by omega), jup_same, jup_jup, jup_ne (show (6 : Nat) ≠ 2 by omega), jup_ne (show (6 : Nat) ≠ 1 by omega), i4, jbO_some, jk_some, E_m_scareLine_17, if_neg hjo2, hcl2, jup_ne (show (4 : Nat) ≠ 3 by omega), E_m_goOn, if_pos m39, r2, jbO_some, jk_none, E_m_goOn_5, jbO_some, jk_none]
  generalize hpa2 : jup pa (jq w) (jup (jup (jup (pa (jq w)) 1 (jup (pa (jq w) 1) Sc (f1 12))) 2 (jup (pa (jq w) 2) Sc (Int32.ofNat c))) 6 (jup (pa (jq w) 6) Sc 0)) = pa2
  have hpa2v : pa2 (jq w) = jup (jup (jup (pa (jq w)) 1 (jup (pa (jq w) 1) Sc (f1 12))) 2 (jup (pa (jq w) 2) Sc (Int32.ofNat c))) 6 (jup (pa (jq w) 6) Sc 0) := by rw [← hpa2, jup_same]
  have hF5 : lF (jq w) f p pa mf mg f4 (jup p (jq w) (jup (p (jq w)) 3 (Int32.ofNat (Sc + 1)))) pa2 mf4 (jup (jup mg 3 (jup (mg 3) (6 + Sc) (f1 12))) 4 (jup (mg 4) (6 + Sc) (Int32.ofNat c))) :=
    ((hF4.tr (i8 _)).tr (lF.up (fun _ _ => rfl) (fun _ _ => rfl) (fun _ _ => rfl) (fun _ _ => rfl) u4)).tr ((r7 _).tr (lF.up (fun _ _ => rfl) (fun j hj => jup_ne hj) (fun j hj => by rw [← hpa2, jup_ne hj, jup_ne hj]) (fun _ _ => rfl) lH.rf))
  rcases L_traits (D := D) (D' := D') (i := Sc) (Sc := Sc) (f := f4) (g := g) (n2 := n2) (p := jup p (jq w) (jup (p (jq w)) 3 (Int32.ofNat (Sc + 1)))) (pa := pa2) (s := s) (sa := sa) (sw := sw) (t := t) (z := z) (w := w) (cx := cx) (mf := mf4) (mg := jup (jup mg 3 (jup (mg 3) (6 + Sc) (f1 12))) 4 (jup (mg 4) (6 + Sc) (Int32.ofNat c))) (mn := mn) (mb := mb) (ml := ml) (t1 := t1) (z1 := z1) r3 (rTp_c (by rw [jup_ne (by omega), jup_ne (by omega)]) h2) m49 hf (by rw [jup_ne (by omega), jup_ne (by omega)]; exact q3') with ⟨a, b, d, f5, mf5, hd, j1, j2, j3, j4, j5, j6⟩ | ⟨f5, pa5, mf5, mg5, j1, j2, j3, b1, b2, b3⟩
  rotate_left
  · right
    refine ⟨f5, _, pa5, mf5, mg5, ?_, ?_, hF5.tr j3, b1, b2, b3⟩
    · rw [j1, jbO_some, jk_some, E_r_readScare_99, if_pos (Or.inl rfl)]
    · rw [j2]; exact hend _ _ b1
  left
  have mx1 : (jup (jup mg 3 (jup (mg 3) (6 + Sc) (f1 12))) 4 (jup (mg 4) (6 + Sc) (Int32.ofNat c))) 1 = mg 1 := by rw [jup_ne (by omega), jup_ne (by omega)]
  have mx5 : (jup (jup mg 3 (jup (mg 3) (6 + Sc) (f1 12))) 4 (jup (mg 4) (6 + Sc) (Int32.ofNat c))) 5 = mg 5 := by rw [jup_ne (by omega), jup_ne (by omega)]
  have mx6 : (jup (jup mg 3 (jup (mg 3) (6 + Sc) (f1 12))) 4 (jup (mg 4) (6 + Sc) (Int32.ofNat c))) 6 = mg 6 := by rw [jup_ne (by omega), jup_ne (by omega)]
  have mx7 : (jup (jup mg 3 (jup (mg 3) (6 + Sc) (f1 12))) 4 (jup (mg 4) (6 + Sc) (Int32.ofNat c))) 7 = mg 7 := by rw [jup_ne (by omega), jup_ne (by omega)]
  have mx8 : (jup (jup mg 3 (jup (mg 3) (6 + Sc) (f1 12))) 4 (jup (mg 4) (6 + Sc) (Int32.ofNat c))) 8 = mg 8 := by rw [jup_ne (by omega), jup_ne (by omega)]
  rw [mx1, mx5, mx6, mx7, mx8] at j2
  have fk : ∀ k, k < 10 ∨ 13 < k → f5 k = (jup f 5 1) k := fun k hk => by rw [j4 k hk, r4 k hk, i6 k hk, e4 k hk, s4 k hk]
  have mk : ∀ k, k < 4 ∨ 8 < k → mf5 k = (jup mf 2 (mf 2 ||| ((1 : Int32) <<< (2 &&& 31)))) k := fun k hk => by rw [j5 k hk, r5 k hk, i7 k hk, e5 k hk, s5 k hk]
  generalize hmg5 : (jup (jup (jup (jup (jup (jup (jup mg 3 (jup (mg 3) (6 + Sc) (f1 12))) 4 (jup (mg 4) (6 + Sc) (Int32.ofNat c))) 5 (jup (mg 5) (6 + Sc) a)) 6 (jup (mg 6) (6 + Sc) b)) 7 (jup (mg 7) (6 + Sc) (Int32.ofNat d))) 8 (jup (mg 8) (6 + Sc) 0)) 1 (jup (mg 1) 13 (Int32.ofNat (Sc + 1)))) = mg5 at j2
  have hlH5 : lH (jup (jup mg 3 (jup (mg 3) (6 + Sc) (f1 12))) 4 (jup (mg 4) (6 + Sc) (Int32.ofNat c))) mg5 := by
    have v5 := u3 (jup (jup mg 3 (jup (mg 3) (6 + Sc) (f1 12))) 4 (jup (mg 4) (6 + Sc) (Int32.ofNat c))) 5 a (by omega) (by omega)
    have v6 := u3 (jup (jup (jup mg 3 (jup (mg 3) (6 + Sc) (f1 12))) 4 (jup (mg 4) (6 + Sc) (Int32.ofNat c))) 5 (jup (mg 5) (6 + Sc) a)) 6 b (by omega) (by omega)
    have v7 := u3 (jup (jup (jup (jup mg 3 (jup (mg 3) (6 + Sc) (f1 12))) 4 (jup (mg 4) (6 + Sc) (Int32.ofNat c))) 5 (jup (mg 5) (6 + Sc) a)) 6 (jup (mg 6) (6 + Sc) b)) 7 (Int32.ofNat d) (by omega) (by omega)
    rw [mx5] at v5
    rw [jup_ne (show (6 : Nat) ≠ 5 by omega), mx6] at v6
    rw [jup_ne (show (7 : Nat) ≠ 6 by omega), jup_ne (show (7 : Nat) ≠ 5 by omega), mx7] at v7
    have v8 := lH_48 (mg := jup (jup (jup (jup (jup mg 3 (jup (mg 3) (6 + Sc) (f1 12))) 4 (jup (mg 4) (6 + Sc) (Int32.ofNat c))) 5 (jup (mg 5) (6 + Sc) a)) 6 (jup (mg 6) (6 + Sc) b)) 7 (jup (mg 7) (6 + Sc) (Int32.ofNat d))) (i := Sc) (Sc := Sc)
    rw [jup_ne (show (8 : Nat) ≠ 7 by omega), jup_ne (show (8 : Nat) ≠ 6 by omega), jup_ne (show (8 : Nat) ≠ 5 by omega), mx8, jup_ne (show (1 : Nat) ≠ 7 by omega), jup_ne (show (1 : Nat) ≠ 6 by omega), jup_ne (show (1 : Nat) ≠ 5 by omega), mx1, hmg5] at v8
    exact ((v5.tr v6).tr v7).tr v8
  refine ⟨f5, jup p (jq w) (jup (p (jq w)) 3 (Int32.ofNat (Sc + 1))), jup pa2 (jq w) (jup (jup (jup (pa2 (jq w)) 3 (jup (pa2 (jq w) 3) Sc a)) 4 (jup (pa2 (jq w) 4) Sc b)) 5 (jup (pa2 (jq w) 5) Sc (Int32.ofNat d))), mf5, mg5, some (.int 2), ?_, ?_, ?_, ?_⟩
  · rw [j1, jbO_some, jk_some, E_r_readScare_99, if_pos (Or.inr rfl)]
  · rw [j2, jbO_some, jk_none, E_m_line_90]
  · exact hF5.tr ⟨fun k hk => j4 k (by omega), fun j hj => ⟨rfl, jup_ne hj⟩, fun k hk => j5 k (by omega), hlH5, j6, fun _ => ⟨m49, j4 7 (by omega), j4 8 (by omega), j5 10 (by omega)⟩⟩
  · have g1 : mg5 1 = jup (mg 1) 13 (Int32.ofNat (Sc + 1)) := by rw [← hmg5, jup_same]
    have g2 : mg5 2 = mg 2 := by rw [← hmg5]; simp (disch := omega) only [jup_ne]
    have g3 : mg5 3 = jup (mg 3) (6 + Sc) (f1 12) := by rw [← hmg5]; simp (disch := omega) only [jup_ne, jup_same]
    have g4 : mg5 4 = jup (mg 4) (6 + Sc) (Int32.ofNat c) := by rw [← hmg5]; simp (disch := omega) only [jup_ne, jup_same]
    have g5 : mg5 5 = jup (mg 5) (6 + Sc) a := by rw [← hmg5]; simp (disch := omega) only [jup_ne, jup_same]
    have g6 : mg5 6 = jup (mg 6) (6 + Sc) b := by rw [← hmg5]; simp (disch := omega) only [jup_ne, jup_same]
    have g7 : mg5 7 = jup (mg 7) (6 + Sc) (Int32.ofNat d) := by rw [← hmg5]; simp (disch := omega) only [jup_ne, jup_same]
    have g8 : mg5 8 = jup (mg 8) (6 + Sc) 0 := by rw [← hmg5]; simp (disch := omega) only [jup_ne, jup_same]
    have gk : ∀ k, k = 0 ∨ 9 ≤ k → mg5 k = mg k := by intro k hk; rw [← hmg5]; simp (disch := omega) only [jup_ne]
    rw [jup_same, jup_same, hpa2v]
    simp (disch := omega) only [jup_ne, jup_same]
    refine ⟨W, H, Sc + 1, fl, Wn, kn, cr, j3, rTp_c (gk 0 (by omega)) h2, by rw [j5 9 (by omega)]; exact m49, by rw [mk 13 (by omega), jup_ne (by omega)]; exact h13, ?_, ?_, ?_, ?_, ?_, ?_⟩
    · exact told_up3 (c := 2) hT (by decide) (by rw [fk 2 (by omega), jup_ne (by omega)]) (by rw [fk 5 (by omega), jup_same]) (by rw [mk 2 (by omega), jup_same]; rfl)
    · unfold rNum
      rw [g1, mk 3 (by omega), mk 14 (by omega), fk 4 (by omega)]
      simp (disch := omega) only [jup_ne, jup_same]
      exact ⟨q0, ⟨q1, q1', hW1, hW6⟩, ⟨q2, q2', hH1, hH5⟩, ⟨trivial, trivial, by omega⟩, q4, q6, q7, q5, q8, q9, q10⟩
    · intro i hi
      rw [fk 3 (by omega), g2]
      simp (disch := omega) only [jup_ne]
      exact hC i hi
    · refine ⟨fun i hi => ?_, fun _ => by rw [fk 5 (by omega), jup_same]; decide⟩
      rw [g3, g4, g5, g6, g7, g8]
      simp (disch := omega) only [jup_ne, jup_same]
      by_cases his : i = Sc
      · subst his
        simp only [jup_same]
        exact ⟨trivial, trivial, trivial, trivial, trivial, trivial, ⟨c, hcl3, rfl⟩, d, hd, rfl⟩
      · have h6i : 6 + i ≠ 6 + Sc := by omega
        simp only [jup_ne his, jup_ne h6i]
        exact hS.1 i (by omega)
    · intro x hx; rw [gk 9 (by omega)]; simp (disch := omega) only [jup_ne]; exact hW x hx
    · intro r hr
      refine rLw_c (hL r hr) (Nat.le_refl kn) (by rw [jup_ne (by omega)]) (by simp (disch := omega) only [jup_ne]) (by simp (disch := omega) only [jup_ne]) (by rw [gk 10 (by omega)]) (by rw [gk 11 (by omega)]) (fun k _ => ⟨by rw [gk 12 (by omega)], by rw [gk 13 (by omega)]⟩) (fun q => ?_)
      rw [fk 2 (by omega), jup_ne (by omega)] at q; exact q
