-- READING LINES: one number, told once
theorem L_most {D D' N : Nat} {f : Nat → Int32} {g : Nat → Nat → Int32} {n2 : Nat → Nat → Int64} {p : Nat → Nat → Int32} {pa : Nat → Nat → Nat → Int32} {s : Nat → Nat → Int32} {sa : Nat → Nat → Nat → Int32} {sw : Bool} {t : List jE} {z : Nat × Nat × Nat × (Nat → Int32)} {w : Bool} {cx : jCX} {mf : Nat → Int32} {mg : Nat → Nat → Int32} {mn : Nat → Nat → Int64} {mb : Nat → Nat → Int32} {ml : Nat → Int64} {t1 : List jE} {z1 : Nat × Nat × Nat × (Nat → Int32)} (h : rLn N g f (p (jq w)) (pa (jq w)) mf mg) (h7 : mf 7 = 0) (h8 : mf 8 = 4) : ((∃ f' p' pa' mf' mg' d', K_r_readSingle D w 4 f g n2 p pa s sa sw t z = some (.inl (some (.int 1)), (jX f' g n2 p' pa' s sa sw (.ref (jpl w)) t, z)) ∧ K_m_line D' cx mf mg mn mb ml t1 z1 = K_m_line_149 D' d' cx mf' mg' mn mb ml t1 z1 ∧ lF (jq w) f p pa mf mg f' p' pa' mf' mg' ∧ rLn N g f' (p' (jq w)) (pa' (jq w)) mf' mg') ∨ (∃ f' p' pa' mf' mg', K_r_readSingle D w 4 f g n2 p pa s sa sw t z = some (.inl (some (.int 0)), (jX f' g n2 p' pa' s sa sw (.ref (jpl w)) t, z)) ∧ K_m_line D' cx mf mg mn mb ml t1 z1 = some (.inl none, (jXt cx (jY mf' mg' mn mb ml t1), z1)) ∧ lF (jq w) f p pa mf mg f' p' pa' mf' mg' ∧ ¬ mf' 9 = 0 ∧ f' 7 = mf' 9 ∧ f' 8 = mf' 10)) := by
  have n10 : ¬ (1 : Int32) = 0 := by decide
  obtain ⟨W, H, Sc, fl, Wn, kn, cr, h1, h2, h3, h13, hT, hN, hC, hS, hW, hL⟩ := id h
  have hfull : K_m_isFull D' 4 cx mf mg mn mb ml t1 z1 = some (.inl (some (.int 0)), (jXt cx (jY mf mg mn mb ml t1), z1)) := by
    simp +decide only [E_m_isFull, E_m_isFull_8, E_m_isFull_16, E_m_isFull_24, if_false]
  have honce : K_m_isOnce D' 4 cx mf mg mn mb ml t1 z1 = some (.inl (some (.int 1)), (jXt cx (jY mf mg mn mb ml t1), z1)) := by
    simp +decide only [E_m_isOnce, if_false, if_true]
  have hline : K_m_line D' cx mf mg mn mb ml t1 z1 = if (((mf 2) >>> (4 &&& 31)) &&& 1) = 1 then (jbO (K_m_wrong D' 3 cx mf mg mn mb ml t1 z1) (jk D' 160 36 ([some (.ref 79), some (.int 4)], []) [])) else (K_m_line_37 D' 4 cx mf mg mn mb ml t1 z1) := by
    rw [E_m_line, if_pos h7, h8, if_neg (by decide), hfull, jbO_some, jk_some, E_m_line_17, if_pos rfl, honce, jbO_some, jk_some, E_m_line_24, if_neg n10]
  have hb0 : bt (f 2) 4 = bt (mf 2) 4 := hT.1 (4, 4) (by decide)
  have hc0 : (((f 2) >>> (4 &&& 31 : Int32)) &&& 1 = 0) = (bt (f 2) 4 = false) := jbit0 (c := 4) (by omega)
  have hm0 : (((mf 2) >>> (4 &&& 31 : Int32)) &&& 1 = 1) = (bt (mf 2) 4 = true) := jbit10 (c := 4) (by omega)
  have hrs : K_r_readSingle D w 4 f g n2 p pa s sa sw t z = jbO (K_r_isFirst D w 4 f g n2 p pa s sa sw t z) (jk D 61 19 ([some (.ref 1), some (.int 4), none], []) []) := by
    simp +decide only [E_r_readSingle, if_false, if_true, E_r_readSingle_16]
  have hhi : ∀ f' : Nat → Int32, K_r_highestOf D w 4 f' g n2 p pa s sa sw t z = some (.inl (some (.int 12)), (jX f' g n2 p pa s sa sw (.ref (jpl w)) t, z)) := by
    intro f'; simp +decide only [E_r_highestOf, if_false, if_true]
  rw [hline, hrs, E_r_isFirst]
  by_cases ht : bt (mf 2) 4 = true
  · right
    obtain ⟨x3, x4, x5, x6⟩ := lfail (v := jq w) (k := 3) (p := p) (pa := pa) (mg := mg) h1 (by decide)
    refine ⟨_, p, pa, _, mg, ?_, ?_, x3, x4, x5, x6⟩
    · rw [if_neg (by rw [hc0, hb0, ht]; decide), E_r_fail, jbO_some, jk_some, E_r_isFirst_10, if_pos (Or.inl rfl), jbO_some, jk_some, E_r_readSingle_19, if_pos rfl]
    · rw [if_pos (by rw [hm0]; exact ht), M_wrong h3, jbO_some, jk_none, E_m_line_36, B_line_49 x4]
  have ht' : bt (mf 2) 4 = false := by simpa using ht
  rw [if_pos (show ((f 2) >>> (4 &&& 31 : Int32)) &&& 1 = 0 by rw [hc0, hb0]; exact ht'), jbO_some, jk_some, E_r_readSingle_19, if_neg n10, if_neg (show ¬ ((mf 2) >>> (4 &&& 31 : Int32)) &&& 1 = 1 by rw [hm0]; exact ht), E_m_line_37, if_neg (by decide), E_m_line_49, if_pos h3]
  have hT0 : rTok N (jup f 2 (f 2 ||| ((1 : Int32) <<< (4 &&& 31)))) (jup mf 2 (mf 2 ||| ((1 : Int32) <<< (4 &&& 31)))) := rTok_c (fun k a b => jup_ne (by omega)) (fun k a b => jup_ne (by omega)) h1
  have hF1 : lF (jq w) f p pa mf mg (jup f 2 (f 2 ||| ((1 : Int32) <<< (4 &&& 31)))) p pa (jup mf 2 (mf 2 ||| ((1 : Int32) <<< (4 &&& 31)))) mg := lF.up (fun k hk => jup_ne (by omega)) (fun _ _ => rfl) (fun _ _ => rfl) (fun k hk => jup_ne (by omega)) lH.rf
  obtain ⟨f1, mf1, s1, s2, s3, s4, s5, -, s7, -⟩ := L_step (D := D) (D' := D') (f := jup f 2 (f 2 ||| ((1 : Int32) <<< (4 &&& 31)))) (g := g) (n2 := n2) (p := p) (pa := pa) (s := s) (sa := sa) (sw := sw) (rp := .ref (jpl w)) (t := t) (z := z) (cx := cx) (mf := jup mf 2 (mf 2 ||| ((1 : Int32) <<< (4 &&& 31)))) (mg := mg) (mn := mn) (mb := mb) (ml := ml) (t1 := t1) (z1 := z1) hT0 h2
  have m19 : mf1 9 = 0 := by rw [s5 9 (by omega), jup_ne (by omega)]; exact h3
  have h63 : jev D' 160 63 ([some (.ref 79), some (.int 4)], []) [] ((jXt cx (jY mf1 mg mn mb ml t1), z1)) = jbO (K_m_numeral D' 0 12 cx mf1 mg mn mb ml t1 z1) (jk D' 160 100 ([some (.ref 79), some (.int 4)], []) [.int 4, .ref 79]) := by
    rw [E_m_line_63]
    simp +decide only [if_false, if_true]
  rw [s1, jbO_some, jk_none, E_r_readSingle_25, hhi, jbO_some, jk_some, E_r_readSingle_29, s2, jbO_some, jk_none, h63]
  have hN1 := L_num (D := D) (D' := D') (a := 0) (b0 := 12) (f := f1) (g := g) (n2 := n2) (p := p) (pa := pa) (s := s) (sa := sa) (sw := sw) (t := t) (z := z) (w := w) (cx := cx) (mf := mf1) (mg := mg) (mn := mn) (mb := mb) (ml := ml) (t1 := t1) (z1 := z1) s3 h2 m19 (by omega) (by omega)
  rcases hN1 with ⟨x, f2, mf2, hx1, hx2, e1, e2, e3, e4, e5, e6, e7⟩ | ⟨f2, mf2, e1, e3, e7, b1, b2, b3⟩
  rotate_left
  · right
    have e1' : K_r_isNumber D w 0 12 f1 g n2 p pa s sa sw t z = _ := e1
    have e3' : K_m_numeral D' 0 12 cx mf1 mg mn mb ml t1 z1 = _ := e3
    have r0 : ∀ v, K_m_reads D' 4 v cx mf2 mg mn mb ml t1 z1 = _ := fun v => M_reads (x := 4) (by omega)
    refine ⟨f2, p, pa, mf2, _, ?_, ?_, ((hF1.tr (s7 _)).tr (e7 _)).tr (lF.up (fun _ _ => rfl) (fun _ _ => rfl) (fun _ _ => rfl) (fun _ _ => rfl) (lH.up (mg := mg) (k := 1) (i := 11 + 4) (v := Int32.ofNat 0) (Or.inl ⟨rfl, by omega⟩))), b1, b2, b3⟩
    · rw [e1', jbO_some, jk_some, E_r_readSingle_30, if_pos rfl]
    · rw [e3', jbO_some, jk_some, E_m_line_100, r0, jbO_some, jk_none, E_m_line_101, B_line_149 b1]
  left
  have e1' : K_r_isNumber D w 0 12 f1 g n2 p pa s sa sw t z = _ := e1
  have e3' : K_m_numeral D' 0 12 cx mf1 mg mn mb ml t1 z1 = _ := e3
  have r0 : ∀ v, K_m_reads D' 4 v cx mf2 mg mn mb ml t1 z1 = _ := fun v => M_reads (x := 4) (by omega)
  have fk : ∀ k, k < 10 ∨ 13 < k → f2 k = (jup f 2 (f 2 ||| ((1 : Int32) <<< (4 &&& 31)))) k := fun k hk => by rw [e5 k hk, s4 k hk]
  have mk : ∀ k, k < 4 ∨ 8 < k → mf2 k = (jup mf 2 (mf 2 ||| ((1 : Int32) <<< (4 &&& 31)))) k := fun k hk => by rw [e6 k hk, s5 k hk]
  refine ⟨f2, jup p (jq w) (jup (p (jq w)) 6 (Int32.ofNat x)), pa, mf2, jup mg 1 (jup (mg 1) (11 + 4) (Int32.ofNat x)), some (.int 4), ?_, ?_, ((hF1.tr (s7 _)).tr (e7 _)).tr (lF.up (fun _ _ => rfl) (fun j hj => jup_ne hj) (fun _ _ => rfl) (fun _ _ => rfl) (lH.up (mg := mg) (k := 1) (i := 11 + 4) (v := Int32.ofNat x) (Or.inl ⟨rfl, by omega⟩))), ?_⟩
  · rw [e1', jbO_some, jk_some, E_r_readSingle_30, if_neg n10, e2, jbO_some, jk_some, E_r_readSingle_35]
    simp +decide only [if_false, if_true]
  · rw [e3', jbO_some, jk_some, E_m_line_100, r0, jbO_some, jk_none, E_m_line_101]
  · rw [jup_same]
    obtain ⟨q0, q1, q2, q3, q4, q6, q7, q5, q8, q9, q10⟩ := hN
    refine ⟨W, H, Sc, fl, Wn, kn, cr, e4, rTp_c (jup_ne (by omega)) h2, by rw [mk 9 (by omega), jup_ne (by omega)]; exact h3, by rw [mk 13 (by omega), jup_ne (by omega)]; exact h13, ?_, ?_, ?_, ?_, ?_, ?_⟩
    · exact told_up (a := 4) (c := 4) hT (by decide) (by rw [fk 2 (by omega), jup_same]; rfl) (by rw [fk 5 (by omega), jup_ne (by omega)]) (by rw [mk 2 (by omega), jup_same]; rfl)
    · unfold rNum
      rw [jup_same, mk 3 (by omega), mk 14 (by omega), fk 4 (by omega)]
      simp (disch := omega) only [jup_ne, jup_same, Nat.reduceAdd]
      exact ⟨q0, q1, q2, q3, q4, ⟨x, by omega, rfl, rfl⟩, q7, q5, q8, q9, q10⟩
    · intro c hc
      rw [fk 3 (by omega), jup_ne (by omega), jup_ne (by omega)]
      exact hC c hc
    · refine ⟨fun i hi => ?_, fun q => by rw [fk 5 (by omega), jup_ne (by omega)]; exact hS.2 q⟩
      simp (disch := omega) only [jup_ne]
      exact hS.1 i hi
    · intro d hd; rw [jup_ne (by omega)]; exact hW d hd
    · intro r hr
      refine rLw_c (hL r hr) (Nat.le_refl kn) (by rw [jup_ne (by omega)]) rfl rfl (by rw [jup_ne (by omega)]) (by rw [jup_ne (by omega)]) (fun k _ => ⟨by rw [jup_ne (by omega)], by rw [jup_ne (by omega)]⟩) (fun q => ?_)
      rw [fk 2 (by omega), jup_same, b_or] at q
      simp at q; exact q.1
theorem L_crows {D D' N : Nat} {f : Nat → Int32} {g : Nat → Nat → Int32} {n2 : Nat → Nat → Int64} {p : Nat → Nat → Int32} {pa : Nat → Nat → Nat → Int32} {s : Nat → Nat → Int32} {sa : Nat → Nat → Nat → Int32} {sw : Bool} {t : List jE} {z : Nat × Nat × Nat × (Nat → Int32)} {w : Bool} {cx : jCX} {mf : Nat → Int32} {mg : Nat → Nat → Int32} {mn : Nat → Nat → Int64} {mb : Nat → Nat → Int32} {ml : Nat → Int64} {t1 : List jE} {z1 : Nat × Nat × Nat × (Nat → Int32)} (h : rLn N g f (p (jq w)) (pa (jq w)) mf mg) (h7 : mf 7 = 0) (h8 : mf 8 = 5) : ((∃ f' p' pa' mf' mg' d', K_r_readSingle D w 5 f g n2 p pa s sa sw t z = some (.inl (some (.int 1)), (jX f' g n2 p' pa' s sa sw (.ref (jpl w)) t, z)) ∧ K_m_line D' cx mf mg mn mb ml t1 z1 = K_m_line_149 D' d' cx mf' mg' mn mb ml t1 z1 ∧ lF (jq w) f p pa mf mg f' p' pa' mf' mg' ∧ rLn N g f' (p' (jq w)) (pa' (jq w)) mf' mg') ∨ (∃ f' p' pa' mf' mg', K_r_readSingle D w 5 f g n2 p pa s sa sw t z = some (.inl (some (.int 0)), (jX f' g n2 p' pa' s sa sw (.ref (jpl w)) t, z)) ∧ K_m_line D' cx mf mg mn mb ml t1 z1 = some (.inl none, (jXt cx (jY mf' mg' mn mb ml t1), z1)) ∧ lF (jq w) f p pa mf mg f' p' pa' mf' mg' ∧ ¬ mf' 9 = 0 ∧ f' 7 = mf' 9 ∧ f' 8 = mf' 10)) := by
  have n10 : ¬ (1 : Int32) = 0 := by decide
  obtain ⟨W, H, Sc, fl, Wn, kn, cr, h1, h2, h3, h13, hT, hN, hC, hS, hW, hL⟩ := id h
  have hfull : K_m_isFull D' 5 cx mf mg mn mb ml t1 z1 = some (.inl (some (.int 0)), (jXt cx (jY mf mg mn mb ml t1), z1)) := by
    simp +decide only [E_m_isFull, E_m_isFull_8, E_m_isFull_16, E_m_isFull_24, if_false]
  have honce : K_m_isOnce D' 5 cx mf mg mn mb ml t1 z1 = some (.inl (some (.int 1)), (jXt cx (jY mf mg mn mb ml t1), z1)) := by
    simp +decide only [E_m_isOnce, if_false, if_true]
  have hline : K_m_line D' cx mf mg mn mb ml t1 z1 = if (((mf 2) >>> (5 &&& 31)) &&& 1) = 1 then (jbO (K_m_wrong D' 3 cx mf mg mn mb ml t1 z1) (jk D' 160 36 ([some (.ref 79), some (.int 5)], []) [])) else (K_m_line_37 D' 5 cx mf mg mn mb ml t1 z1) := by
    rw [E_m_line, if_pos h7, h8, if_neg (by decide), hfull, jbO_some, jk_some, E_m_line_17, if_pos rfl, honce, jbO_some, jk_some, E_m_line_24, if_neg n10]
  have hb0 : bt (f 2) 5 = bt (mf 2) 5 := hT.1 (5, 5) (by decide)
  have hc0 : (((f 2) >>> (5 &&& 31 : Int32)) &&& 1 = 0) = (bt (f 2) 5 = false) := jbit0 (c := 5) (by omega)
  have hm0 : (((mf 2) >>> (5 &&& 31 : Int32)) &&& 1 = 1) = (bt (mf 2) 5 = true) := jbit10 (c := 5) (by omega)
  have hrs : K_r_readSingle D w 5 f g n2 p pa s sa sw t z = jbO (K_r_isFirst D w 5 f g n2 p pa s sa sw t z) (jk D 61 19 ([some (.ref 1), some (.int 5), none], []) []) := by
    simp +decide only [E_r_readSingle, if_false, if_true, E_r_readSingle_16]
  have hhi : ∀ f' : Nat → Int32, K_r_highestOf D w 5 f' g n2 p pa s sa sw t z = some (.inl (some (.int 99)), (jX f' g n2 p pa s sa sw (.ref (jpl w)) t, z)) := by
    intro f'; simp +decide only [E_r_highestOf, if_false, if_true]
  rw [hline, hrs, E_r_isFirst]
  by_cases ht : bt (mf 2) 5 = true
  · right
    obtain ⟨x3, x4, x5, x6⟩ := lfail (v := jq w) (k := 3) (p := p) (pa := pa) (mg := mg) h1 (by decide)
    refine ⟨_, p, pa, _, mg, ?_, ?_, x3, x4, x5, x6⟩
    · rw [if_neg (by rw [hc0, hb0, ht]; decide), E_r_fail, jbO_some, jk_some, E_r_isFirst_10, if_pos (Or.inl rfl), jbO_some, jk_some, E_r_readSingle_19, if_pos rfl]
    · rw [if_pos (by rw [hm0]; exact ht), M_wrong h3, jbO_some, jk_none, E_m_line_36, B_line_49 x4]
  have ht' : bt (mf 2) 5 = false := by simpa using ht
  rw [if_pos (show ((f 2) >>> (5 &&& 31 : Int32)) &&& 1 = 0 by rw [hc0, hb0]; exact ht'), jbO_some, jk_some, E_r_readSingle_19, if_neg n10, if_neg (show ¬ ((mf 2) >>> (5 &&& 31 : Int32)) &&& 1 = 1 by rw [hm0]; exact ht), E_m_line_37, if_neg (by decide), E_m_line_49, if_pos h3]
  have hT0 : rTok N (jup f 2 (f 2 ||| ((1 : Int32) <<< (5 &&& 31)))) (jup mf 2 (mf 2 ||| ((1 : Int32) <<< (5 &&& 31)))) := rTok_c (fun k a b => jup_ne (by omega)) (fun k a b => jup_ne (by omega)) h1
  have hF1 : lF (jq w) f p pa mf mg (jup f 2 (f 2 ||| ((1 : Int32) <<< (5 &&& 31)))) p pa (jup mf 2 (mf 2 ||| ((1 : Int32) <<< (5 &&& 31)))) mg := lF.up (fun k hk => jup_ne (by omega)) (fun _ _ => rfl) (fun _ _ => rfl) (fun k hk => jup_ne (by omega)) lH.rf
  obtain ⟨f1, mf1, s1, s2, s3, s4, s5, -, s7, -⟩ := L_step (D := D) (D' := D') (f := jup f 2 (f 2 ||| ((1 : Int32) <<< (5 &&& 31)))) (g := g) (n2 := n2) (p := p) (pa := pa) (s := s) (sa := sa) (sw := sw) (rp := .ref (jpl w)) (t := t) (z := z) (cx := cx) (mf := jup mf 2 (mf 2 ||| ((1 : Int32) <<< (5 &&& 31)))) (mg := mg) (mn := mn) (mb := mb) (ml := ml) (t1 := t1) (z1 := z1) hT0 h2
  have m19 : mf1 9 = 0 := by rw [s5 9 (by omega), jup_ne (by omega)]; exact h3
  have h63 : jev D' 160 63 ([some (.ref 79), some (.int 5)], []) [] ((jXt cx (jY mf1 mg mn mb ml t1), z1)) = jbO (K_m_numeral D' 0 99 cx mf1 mg mn mb ml t1 z1) (jk D' 160 108 ([some (.ref 79), some (.int 5)], []) [.int 5, .ref 79]) := by
    rw [E_m_line_63]
    simp +decide only [if_false, if_true]
  rw [s1, jbO_some, jk_none, E_r_readSingle_25, hhi, jbO_some, jk_some, E_r_readSingle_29, s2, jbO_some, jk_none, h63]
  have hN1 := L_num (D := D) (D' := D') (a := 0) (b0 := 99) (f := f1) (g := g) (n2 := n2) (p := p) (pa := pa) (s := s) (sa := sa) (sw := sw) (t := t) (z := z) (w := w) (cx := cx) (mf := mf1) (mg := mg) (mn := mn) (mb := mb) (ml := ml) (t1 := t1) (z1 := z1) s3 h2 m19 (by omega) (by omega)
  rcases hN1 with ⟨x, f2, mf2, hx1, hx2, e1, e2, e3, e4, e5, e6, e7⟩ | ⟨f2, mf2, e1, e3, e7, b1, b2, b3⟩
  rotate_left
  · right
    have e1' : K_r_isNumber D w 0 99 f1 g n2 p pa s sa sw t z = _ := e1
    have e3' : K_m_numeral D' 0 99 cx mf1 mg mn mb ml t1 z1 = _ := e3
    have r0 : ∀ v, K_m_reads D' 5 v cx mf2 mg mn mb ml t1 z1 = _ := fun v => M_reads (x := 5) (by omega)
    refine ⟨f2, p, pa, mf2, _, ?_, ?_, ((hF1.tr (s7 _)).tr (e7 _)).tr (lF.up (fun _ _ => rfl) (fun _ _ => rfl) (fun _ _ => rfl) (fun _ _ => rfl) (lH.up (mg := mg) (k := 1) (i := 11 + 5) (v := Int32.ofNat 0) (Or.inl ⟨rfl, by omega⟩))), b1, b2, b3⟩
    · rw [e1', jbO_some, jk_some, E_r_readSingle_30, if_pos rfl]
    · rw [e3', jbO_some, jk_some, E_m_line_108, r0, jbO_some, jk_none, E_m_line_109, B_line_149 b1]
  left
  have e1' : K_r_isNumber D w 0 99 f1 g n2 p pa s sa sw t z = _ := e1
  have e3' : K_m_numeral D' 0 99 cx mf1 mg mn mb ml t1 z1 = _ := e3
  have r0 : ∀ v, K_m_reads D' 5 v cx mf2 mg mn mb ml t1 z1 = _ := fun v => M_reads (x := 5) (by omega)
  have fk : ∀ k, k < 10 ∨ 13 < k → f2 k = (jup f 2 (f 2 ||| ((1 : Int32) <<< (5 &&& 31)))) k := fun k hk => by rw [e5 k hk, s4 k hk]
  have mk : ∀ k, k < 4 ∨ 8 < k → mf2 k = (jup mf 2 (mf 2 ||| ((1 : Int32) <<< (5 &&& 31)))) k := fun k hk => by rw [e6 k hk, s5 k hk]
  refine ⟨f2, jup p (jq w) (jup (p (jq w)) 7 (Int32.ofNat x)), pa, mf2, jup mg 1 (jup (mg 1) (11 + 5) (Int32.ofNat x)), some (.int 5), ?_, ?_, ((hF1.tr (s7 _)).tr (e7 _)).tr (lF.up (fun _ _ => rfl) (fun j hj => jup_ne hj) (fun _ _ => rfl) (fun _ _ => rfl) (lH.up (mg := mg) (k := 1) (i := 11 + 5) (v := Int32.ofNat x) (Or.inl ⟨rfl, by omega⟩))), ?_⟩
  · rw [e1', jbO_some, jk_some, E_r_readSingle_30, if_neg n10, e2, jbO_some, jk_some, E_r_readSingle_35]
    simp +decide only [if_false, if_true]
  · rw [e3', jbO_some, jk_some, E_m_line_108, r0, jbO_some, jk_none, E_m_line_109]
  · rw [jup_same]
    obtain ⟨q0, q1, q2, q3, q4, q6, q7, q5, q8, q9, q10⟩ := hN
    refine ⟨W, H, Sc, fl, Wn, kn, cr, e4, rTp_c (jup_ne (by omega)) h2, by rw [mk 9 (by omega), jup_ne (by omega)]; exact h3, by rw [mk 13 (by omega), jup_ne (by omega)]; exact h13, ?_, ?_, ?_, ?_, ?_, ?_⟩
    · exact told_up (a := 5) (c := 5) hT (by decide) (by rw [fk 2 (by omega), jup_same]; rfl) (by rw [fk 5 (by omega), jup_ne (by omega)]) (by rw [mk 2 (by omega), jup_same]; rfl)
    · unfold rNum
      rw [jup_same, mk 3 (by omega), mk 14 (by omega), fk 4 (by omega)]
      simp (disch := omega) only [jup_ne, jup_same, Nat.reduceAdd]
      exact ⟨q0, q1, q2, q3, q4, q6, ⟨x, by omega, rfl, rfl⟩, q5, q8, q9, q10⟩
    · intro c hc
      rw [fk 3 (by omega), jup_ne (by omega), jup_ne (by omega)]
      exact hC c hc
    · refine ⟨fun i hi => ?_, fun q => by rw [fk 5 (by omega), jup_ne (by omega)]; exact hS.2 q⟩
      simp (disch := omega) only [jup_ne]
      exact hS.1 i hi
    · intro d hd; rw [jup_ne (by omega)]; exact hW d hd
    · intro r hr
      refine rLw_c (hL r hr) (Nat.le_refl kn) (by rw [jup_ne (by omega)]) rfl rfl (by rw [jup_ne (by omega)]) (by rw [jup_ne (by omega)]) (fun k _ => ⟨by rw [jup_ne (by omega)], by rw [jup_ne (by omega)]⟩) (fun q => ?_)
      rw [fk 2 (by omega), jup_same, b_or] at q
      simp at q; exact q.1
theorem L_gust {D D' N : Nat} {f : Nat → Int32} {g : Nat → Nat → Int32} {n2 : Nat → Nat → Int64} {p : Nat → Nat → Int32} {pa : Nat → Nat → Nat → Int32} {s : Nat → Nat → Int32} {sa : Nat → Nat → Nat → Int32} {sw : Bool} {t : List jE} {z : Nat × Nat × Nat × (Nat → Int32)} {w : Bool} {cx : jCX} {mf : Nat → Int32} {mg : Nat → Nat → Int32} {mn : Nat → Nat → Int64} {mb : Nat → Nat → Int32} {ml : Nat → Int64} {t1 : List jE} {z1 : Nat × Nat × Nat × (Nat → Int32)} (h : rLn N g f (p (jq w)) (pa (jq w)) mf mg) (h7 : mf 7 = 0) (h8 : mf 8 = 7) : ((∃ f' p' pa' mf' mg' d', K_r_readSingle D w 6 f g n2 p pa s sa sw t z = some (.inl (some (.int 1)), (jX f' g n2 p' pa' s sa sw (.ref (jpl w)) t, z)) ∧ K_m_line D' cx mf mg mn mb ml t1 z1 = K_m_line_149 D' d' cx mf' mg' mn mb ml t1 z1 ∧ lF (jq w) f p pa mf mg f' p' pa' mf' mg' ∧ rLn N g f' (p' (jq w)) (pa' (jq w)) mf' mg') ∨ (∃ f' p' pa' mf' mg', K_r_readSingle D w 6 f g n2 p pa s sa sw t z = some (.inl (some (.int 0)), (jX f' g n2 p' pa' s sa sw (.ref (jpl w)) t, z)) ∧ K_m_line D' cx mf mg mn mb ml t1 z1 = some (.inl none, (jXt cx (jY mf' mg' mn mb ml t1), z1)) ∧ lF (jq w) f p pa mf mg f' p' pa' mf' mg' ∧ ¬ mf' 9 = 0 ∧ f' 7 = mf' 9 ∧ f' 8 = mf' 10)) := by
  have n10 : ¬ (1 : Int32) = 0 := by decide
  obtain ⟨W, H, Sc, fl, Wn, kn, cr, h1, h2, h3, h13, hT, hN, hC, hS, hW, hL⟩ := id h
  have hfull : K_m_isFull D' 7 cx mf mg mn mb ml t1 z1 = some (.inl (some (.int 0)), (jXt cx (jY mf mg mn mb ml t1), z1)) := by
    simp +decide only [E_m_isFull, E_m_isFull_8, E_m_isFull_16, E_m_isFull_24, if_false]
  have honce : K_m_isOnce D' 7 cx mf mg mn mb ml t1 z1 = some (.inl (some (.int 1)), (jXt cx (jY mf mg mn mb ml t1), z1)) := by
    simp +decide only [E_m_isOnce, if_false, if_true]
  have hline : K_m_line D' cx mf mg mn mb ml t1 z1 = if (((mf 2) >>> (7 &&& 31)) &&& 1) = 1 then (jbO (K_m_wrong D' 3 cx mf mg mn mb ml t1 z1) (jk D' 160 36 ([some (.ref 79), some (.int 7)], []) [])) else (K_m_line_37 D' 7 cx mf mg mn mb ml t1 z1) := by
    rw [E_m_line, if_pos h7, h8, if_neg (by decide), hfull, jbO_some, jk_some, E_m_line_17, if_pos rfl, honce, jbO_some, jk_some, E_m_line_24, if_neg n10]
  have hb0 : bt (f 2) 6 = bt (mf 2) 7 := hT.1 (6, 7) (by decide)
  have hc0 : (((f 2) >>> (6 &&& 31 : Int32)) &&& 1 = 0) = (bt (f 2) 6 = false) := jbit0 (c := 6) (by omega)
  have hm0 : (((mf 2) >>> (7 &&& 31 : Int32)) &&& 1 = 1) = (bt (mf 2) 7 = true) := jbit10 (c := 7) (by omega)
  have hrs : K_r_readSingle D w 6 f g n2 p pa s sa sw t z = jbO (K_r_isFirst D w 6 f g n2 p pa s sa sw t z) (jk D 61 19 ([some (.ref 1), some (.int 6), none], []) []) := by
    simp +decide only [E_r_readSingle, if_false, if_true, E_r_readSingle_16]
  have hhi : ∀ f' : Nat → Int32, K_r_highestOf D w 6 f' g n2 p pa s sa sw t z = some (.inl (some (.int 10)), (jX f' g n2 p pa s sa sw (.ref (jpl w)) t, z)) := by
    intro f'; simp +decide only [E_r_highestOf, if_false, if_true]
  rw [hline, hrs, E_r_isFirst]
  by_cases ht : bt (mf 2) 7 = true
  · right
    obtain ⟨x3, x4, x5, x6⟩ := lfail (v := jq w) (k := 3) (p := p) (pa := pa) (mg := mg) h1 (by decide)
    refine ⟨_, p, pa, _, mg, ?_, ?_, x3, x4, x5, x6⟩
    · rw [if_neg (by rw [hc0, hb0, ht]; decide), E_r_fail, jbO_some, jk_some, E_r_isFirst_10, if_pos (Or.inl rfl), jbO_some, jk_some, E_r_readSingle_19, if_pos rfl]
    · rw [if_pos (by rw [hm0]; exact ht), M_wrong h3, jbO_some, jk_none, E_m_line_36, B_line_49 x4]
  have ht' : bt (mf 2) 7 = false := by simpa using ht
  rw [if_pos (show ((f 2) >>> (6 &&& 31 : Int32)) &&& 1 = 0 by rw [hc0, hb0]; exact ht'), jbO_some, jk_some, E_r_readSingle_19, if_neg n10, if_neg (show ¬ ((mf 2) >>> (7 &&& 31 : Int32)) &&& 1 = 1 by rw [hm0]; exact ht), E_m_line_37, if_neg (by decide), E_m_line_49, if_pos h3]
  have hT0 : rTok N (jup f 2 (f 2 ||| ((1 : Int32) <<< (6 &&& 31)))) (jup mf 2 (mf 2 ||| ((1 : Int32) <<< (7 &&& 31)))) := rTok_c (fun k a b => jup_ne (by omega)) (fun k a b => jup_ne (by omega)) h1
  have hF1 : lF (jq w) f p pa mf mg (jup f 2 (f 2 ||| ((1 : Int32) <<< (6 &&& 31)))) p pa (jup mf 2 (mf 2 ||| ((1 : Int32) <<< (7 &&& 31)))) mg := lF.up (fun k hk => jup_ne (by omega)) (fun _ _ => rfl) (fun _ _ => rfl) (fun k hk => jup_ne (by omega)) lH.rf
  obtain ⟨f1, mf1, s1, s2, s3, s4, s5, -, s7, -⟩ := L_step (D := D) (D' := D') (f := jup f 2 (f 2 ||| ((1 : Int32) <<< (6 &&& 31)))) (g := g) (n2 := n2) (p := p) (pa := pa) (s := s) (sa := sa) (sw := sw) (rp := .ref (jpl w)) (t := t) (z := z) (cx := cx) (mf := jup mf 2 (mf 2 ||| ((1 : Int32) <<< (7 &&& 31)))) (mg := mg) (mn := mn) (mb := mb) (ml := ml) (t1 := t1) (z1 := z1) hT0 h2
  have m19 : mf1 9 = 0 := by rw [s5 9 (by omega), jup_ne (by omega)]; exact h3
  have h63 : jev D' 160 63 ([some (.ref 79), some (.int 7)], []) [] ((jXt cx (jY mf1 mg mn mb ml t1), z1)) = jbO (K_m_numeral D' 0 10 cx mf1 mg mn mb ml t1 z1) (jk D' 160 137 ([some (.ref 79), some (.int 7)], []) [.int 7, .ref 79]) := by
    rw [E_m_line_63]
    simp +decide only [if_false, if_true]
  rw [s1, jbO_some, jk_none, E_r_readSingle_25, hhi, jbO_some, jk_some, E_r_readSingle_29, s2, jbO_some, jk_none, h63]
  have hN1 := L_num (D := D) (D' := D') (a := 0) (b0 := 10) (f := f1) (g := g) (n2 := n2) (p := p) (pa := pa) (s := s) (sa := sa) (sw := sw) (t := t) (z := z) (w := w) (cx := cx) (mf := mf1) (mg := mg) (mn := mn) (mb := mb) (ml := ml) (t1 := t1) (z1 := z1) s3 h2 m19 (by omega) (by omega)
  rcases hN1 with ⟨x, f2, mf2, hx1, hx2, e1, e2, e3, e4, e5, e6, e7⟩ | ⟨f2, mf2, e1, e3, e7, b1, b2, b3⟩
  rotate_left
  · right
    have e1' : K_r_isNumber D w 0 10 f1 g n2 p pa s sa sw t z = _ := e1
    have e3' : K_m_numeral D' 0 10 cx mf1 mg mn mb ml t1 z1 = _ := e3
    have r0 : ∀ v, K_m_reads D' 7 v cx mf2 mg mn mb ml t1 z1 = _ := fun v => M_reads (x := 7) (by omega)
    refine ⟨f2, p, pa, mf2, _, ?_, ?_, ((hF1.tr (s7 _)).tr (e7 _)).tr (lF.up (fun _ _ => rfl) (fun _ _ => rfl) (fun _ _ => rfl) (fun _ _ => rfl) (lH.up (mg := mg) (k := 1) (i := 11 + 7) (v := Int32.ofNat 0) (Or.inl ⟨rfl, by omega⟩))), b1, b2, b3⟩
    · rw [e1', jbO_some, jk_some, E_r_readSingle_30, if_pos rfl]
    · rw [e3', jbO_some, jk_some, E_m_line_137, r0, jbO_some, jk_none, E_m_line_138, B_line_149 b1]
  left
  have e1' : K_r_isNumber D w 0 10 f1 g n2 p pa s sa sw t z = _ := e1
  have e3' : K_m_numeral D' 0 10 cx mf1 mg mn mb ml t1 z1 = _ := e3
  have r0 : ∀ v, K_m_reads D' 7 v cx mf2 mg mn mb ml t1 z1 = _ := fun v => M_reads (x := 7) (by omega)
  have fk : ∀ k, k < 10 ∨ 13 < k → f2 k = (jup f 2 (f 2 ||| ((1 : Int32) <<< (6 &&& 31)))) k := fun k hk => by rw [e5 k hk, s4 k hk]
  have mk : ∀ k, k < 4 ∨ 8 < k → mf2 k = (jup mf 2 (mf 2 ||| ((1 : Int32) <<< (7 &&& 31)))) k := fun k hk => by rw [e6 k hk, s5 k hk]
  refine ⟨f2, jup p (jq w) (jup (p (jq w)) 8 (Int32.ofNat x)), pa, mf2, jup mg 1 (jup (mg 1) (11 + 7) (Int32.ofNat x)), some (.int 7), ?_, ?_, ((hF1.tr (s7 _)).tr (e7 _)).tr (lF.up (fun _ _ => rfl) (fun j hj => jup_ne hj) (fun _ _ => rfl) (fun _ _ => rfl) (lH.up (mg := mg) (k := 1) (i := 11 + 7) (v := Int32.ofNat x) (Or.inl ⟨rfl, by omega⟩))), ?_⟩
  · rw [e1', jbO_some, jk_some, E_r_readSingle_30, if_neg n10, e2, jbO_some, jk_some, E_r_readSingle_35]
    simp +decide only [if_false, if_true]
  · rw [e3', jbO_some, jk_some, E_m_line_137, r0, jbO_some, jk_none, E_m_line_138]
  · rw [jup_same]
    obtain ⟨q0, q1, q2, q3, q4, q6, q7, q5, q8, q9, q10⟩ := hN
    refine ⟨W, H, Sc, fl, Wn, kn, cr, e4, rTp_c (jup_ne (by omega)) h2, by rw [mk 9 (by omega), jup_ne (by omega)]; exact h3, by rw [mk 13 (by omega), jup_ne (by omega)]; exact h13, ?_, ?_, ?_, ?_, ?_, ?_⟩
    · exact told_up (a := 6) (c := 7) hT (by decide) (by rw [fk 2 (by omega), jup_same]; rfl) (by rw [fk 5 (by omega), jup_ne (by omega)]) (by rw [mk 2 (by omega), jup_same]; rfl)
    · unfold rNum
      rw [jup_same, mk 3 (by omega), mk 14 (by omega), fk 4 (by omega)]
      simp (disch := omega) only [jup_ne, jup_same, Nat.reduceAdd]
      exact ⟨q0, q1, q2, q3, q4, q6, q7, q5, trivial, q9, q10⟩
    · intro c hc
      rw [fk 3 (by omega), jup_ne (by omega), jup_ne (by omega)]
      exact hC c hc
    · refine ⟨fun i hi => ?_, fun q => by rw [fk 5 (by omega), jup_ne (by omega)]; exact hS.2 q⟩
      simp (disch := omega) only [jup_ne]
      exact hS.1 i hi
    · intro d hd; rw [jup_ne (by omega)]; exact hW d hd
    · intro r hr
      refine rLw_c (hL r hr) (Nat.le_refl kn) (by rw [jup_ne (by omega)]) rfl rfl (by rw [jup_ne (by omega)]) (by rw [jup_ne (by omega)]) (fun k _ => ⟨by rw [jup_ne (by omega)], by rw [jup_ne (by omega)]⟩) (fun q => ?_)
      rw [fk 2 (by omega), jup_same, b_or] at q
      simp at q; exact q.1
theorem L_seed {D D' N : Nat} {f : Nat → Int32} {g : Nat → Nat → Int32} {n2 : Nat → Nat → Int64} {p : Nat → Nat → Int32} {pa : Nat → Nat → Nat → Int32} {s : Nat → Nat → Int32} {sa : Nat → Nat → Nat → Int32} {sw : Bool} {t : List jE} {z : Nat × Nat × Nat × (Nat → Int32)} {w : Bool} {cx : jCX} {mf : Nat → Int32} {mg : Nat → Nat → Int32} {mn : Nat → Nat → Int64} {mb : Nat → Nat → Int32} {ml : Nat → Int64} {t1 : List jE} {z1 : Nat × Nat × Nat × (Nat → Int32)} (h : rLn N g f (p (jq w)) (pa (jq w)) mf mg) (h7 : mf 7 = 0) (h8 : mf 8 = 8) : ((∃ f' p' pa' mf' mg' d', K_r_readSingle D w 7 f g n2 p pa s sa sw t z = some (.inl (some (.int 1)), (jX f' g n2 p' pa' s sa sw (.ref (jpl w)) t, z)) ∧ K_m_line D' cx mf mg mn mb ml t1 z1 = K_m_line_149 D' d' cx mf' mg' mn mb ml t1 z1 ∧ lF (jq w) f p pa mf mg f' p' pa' mf' mg' ∧ rLn N g f' (p' (jq w)) (pa' (jq w)) mf' mg') ∨ (∃ f' p' pa' mf' mg', K_r_readSingle D w 7 f g n2 p pa s sa sw t z = some (.inl (some (.int 0)), (jX f' g n2 p' pa' s sa sw (.ref (jpl w)) t, z)) ∧ K_m_line D' cx mf mg mn mb ml t1 z1 = some (.inl none, (jXt cx (jY mf' mg' mn mb ml t1), z1)) ∧ lF (jq w) f p pa mf mg f' p' pa' mf' mg' ∧ ¬ mf' 9 = 0 ∧ f' 7 = mf' 9 ∧ f' 8 = mf' 10)) := by
  have n10 : ¬ (1 : Int32) = 0 := by decide
  obtain ⟨W, H, Sc, fl, Wn, kn, cr, h1, h2, h3, h13, hT, hN, hC, hS, hW, hL⟩ := id h
  have hfull : K_m_isFull D' 8 cx mf mg mn mb ml t1 z1 = some (.inl (some (.int 0)), (jXt cx (jY mf mg mn mb ml t1), z1)) := by
    simp +decide only [E_m_isFull, E_m_isFull_8, E_m_isFull_16, E_m_isFull_24, if_false]
  have honce : K_m_isOnce D' 8 cx mf mg mn mb ml t1 z1 = some (.inl (some (.int 1)), (jXt cx (jY mf mg mn mb ml t1), z1)) := by
    simp +decide only [E_m_isOnce, if_false, if_true]
  have hline : K_m_line D' cx mf mg mn mb ml t1 z1 = if (((mf 2) >>> (8 &&& 31)) &&& 1) = 1 then (jbO (K_m_wrong D' 3 cx mf mg mn mb ml t1 z1) (jk D' 160 36 ([some (.ref 79), some (.int 8)], []) [])) else (K_m_line_37 D' 8 cx mf mg mn mb ml t1 z1) := by
    rw [E_m_line, if_pos h7, h8, if_neg (by decide), hfull, jbO_some, jk_some, E_m_line_17, if_pos rfl, honce, jbO_some, jk_some, E_m_line_24, if_neg n10]
  have hb0 : bt (f 2) 7 = bt (mf 2) 8 := hT.1 (7, 8) (by decide)
  have hc0 : (((f 2) >>> (7 &&& 31 : Int32)) &&& 1 = 0) = (bt (f 2) 7 = false) := jbit0 (c := 7) (by omega)
  have hm0 : (((mf 2) >>> (8 &&& 31 : Int32)) &&& 1 = 1) = (bt (mf 2) 8 = true) := jbit10 (c := 8) (by omega)
  have hrs : K_r_readSingle D w 7 f g n2 p pa s sa sw t z = jbO (K_r_isFirst D w 7 f g n2 p pa s sa sw t z) (jk D 61 19 ([some (.ref 1), some (.int 7), none], []) []) := by
    simp +decide only [E_r_readSingle, if_false, if_true, E_r_readSingle_16]
  have hhi : ∀ f' : Nat → Int32, K_r_highestOf D w 7 f' g n2 p pa s sa sw t z = some (.inl (some (.int 99999)), (jX f' g n2 p pa s sa sw (.ref (jpl w)) t, z)) := by
    intro f'; simp +decide only [E_r_highestOf, if_false, if_true]
  rw [hline, hrs, E_r_isFirst]
  by_cases ht : bt (mf 2) 8 = true
  · right
    obtain ⟨x3, x4, x5, x6⟩ := lfail (v := jq w) (k := 3) (p := p) (pa := pa) (mg := mg) h1 (by decide)
    refine ⟨_, p, pa, _, mg, ?_, ?_, x3, x4, x5, x6⟩
    · rw [if_neg (by rw [hc0, hb0, ht]; decide), E_r_fail, jbO_some, jk_some, E_r_isFirst_10, if_pos (Or.inl rfl), jbO_some, jk_some, E_r_readSingle_19, if_pos rfl]
    · rw [if_pos (by rw [hm0]; exact ht), M_wrong h3, jbO_some, jk_none, E_m_line_36, B_line_49 x4]
  have ht' : bt (mf 2) 8 = false := by simpa using ht
  rw [if_pos (show ((f 2) >>> (7 &&& 31 : Int32)) &&& 1 = 0 by rw [hc0, hb0]; exact ht'), jbO_some, jk_some, E_r_readSingle_19, if_neg n10, if_neg (show ¬ ((mf 2) >>> (8 &&& 31 : Int32)) &&& 1 = 1 by rw [hm0]; exact ht), E_m_line_37, if_neg (by decide), E_m_line_49, if_pos h3]
  have hT0 : rTok N (jup f 2 (f 2 ||| ((1 : Int32) <<< (7 &&& 31)))) (jup mf 2 (mf 2 ||| ((1 : Int32) <<< (8 &&& 31)))) := rTok_c (fun k a b => jup_ne (by omega)) (fun k a b => jup_ne (by omega)) h1
  have hF1 : lF (jq w) f p pa mf mg (jup f 2 (f 2 ||| ((1 : Int32) <<< (7 &&& 31)))) p pa (jup mf 2 (mf 2 ||| ((1 : Int32) <<< (8 &&& 31)))) mg := lF.up (fun k hk => jup_ne (by omega)) (fun _ _ => rfl) (fun _ _ => rfl) (fun k hk => jup_ne (by omega)) lH.rf
  obtain ⟨f1, mf1, s1, s2, s3, s4, s5, -, s7, -⟩ := L_step (D := D) (D' := D') (f := jup f 2 (f 2 ||| ((1 : Int32) <<< (7 &&& 31)))) (g := g) (n2 := n2) (p := p) (pa := pa) (s := s) (sa := sa) (sw := sw) (rp := .ref (jpl w)) (t := t) (z := z) (cx := cx) (mf := jup mf 2 (mf 2 ||| ((1 : Int32) <<< (8 &&& 31)))) (mg := mg) (mn := mn) (mb := mb) (ml := ml) (t1 := t1) (z1 := z1) hT0 h2
  have m19 : mf1 9 = 0 := by rw [s5 9 (by omega), jup_ne (by omega)]; exact h3
  have h63 : jev D' 160 63 ([some (.ref 79), some (.int 8)], []) [] ((jXt cx (jY mf1 mg mn mb ml t1), z1)) = jbO (K_m_numeral D' 0 99999 cx mf1 mg mn mb ml t1 z1) (jk D' 160 145 ([some (.ref 79), some (.int 8)], []) [.int 8, .ref 79]) := by
    rw [E_m_line_63]
    simp +decide only [if_false, if_true]
  rw [s1, jbO_some, jk_none, E_r_readSingle_25, hhi, jbO_some, jk_some, E_r_readSingle_29, s2, jbO_some, jk_none, h63]
  have hN1 := L_num (D := D) (D' := D') (a := 0) (b0 := 99999) (f := f1) (g := g) (n2 := n2) (p := p) (pa := pa) (s := s) (sa := sa) (sw := sw) (t := t) (z := z) (w := w) (cx := cx) (mf := mf1) (mg := mg) (mn := mn) (mb := mb) (ml := ml) (t1 := t1) (z1 := z1) s3 h2 m19 (by omega) (by omega)
  rcases hN1 with ⟨x, f2, mf2, hx1, hx2, e1, e2, e3, e4, e5, e6, e7⟩ | ⟨f2, mf2, e1, e3, e7, b1, b2, b3⟩
  rotate_left
  · right
    have e1' : K_r_isNumber D w 0 99999 f1 g n2 p pa s sa sw t z = _ := e1
    have e3' : K_m_numeral D' 0 99999 cx mf1 mg mn mb ml t1 z1 = _ := e3
    have r0 : ∀ v, K_m_reads D' 8 v cx mf2 mg mn mb ml t1 z1 = _ := fun v => M_reads (x := 8) (by omega)
    refine ⟨f2, p, pa, mf2, _, ?_, ?_, ((hF1.tr (s7 _)).tr (e7 _)).tr (lF.up (fun _ _ => rfl) (fun _ _ => rfl) (fun _ _ => rfl) (fun _ _ => rfl) (lH.up (mg := mg) (k := 1) (i := 11 + 8) (v := Int32.ofNat 0) (Or.inl ⟨rfl, by omega⟩))), b1, b2, b3⟩
    · rw [e1', jbO_some, jk_some, E_r_readSingle_30, if_pos rfl]
    · rw [e3', jbO_some, jk_some, E_m_line_145, r0, jbO_some, jk_none, E_m_line_146, B_line_149 b1]
  left
  have e1' : K_r_isNumber D w 0 99999 f1 g n2 p pa s sa sw t z = _ := e1
  have e3' : K_m_numeral D' 0 99999 cx mf1 mg mn mb ml t1 z1 = _ := e3
  have r0 : ∀ v, K_m_reads D' 8 v cx mf2 mg mn mb ml t1 z1 = _ := fun v => M_reads (x := 8) (by omega)
  have fk : ∀ k, k < 10 ∨ 13 < k → f2 k = (jup f 2 (f 2 ||| ((1 : Int32) <<< (7 &&& 31)))) k := fun k hk => by rw [e5 k hk, s4 k hk]
  have mk : ∀ k, k < 4 ∨ 8 < k → mf2 k = (jup mf 2 (mf 2 ||| ((1 : Int32) <<< (8 &&& 31)))) k := fun k hk => by rw [e6 k hk, s5 k hk]
  refine ⟨f2, p, pa, mf2, jup mg 1 (jup (mg 1) (11 + 8) (Int32.ofNat x)), some (.int 8), ?_, ?_, ((hF1.tr (s7 _)).tr (e7 _)).tr (lF.up (fun _ _ => rfl) (fun j hj => rfl) (fun _ _ => rfl) (fun _ _ => rfl) (lH.up (mg := mg) (k := 1) (i := 11 + 8) (v := Int32.ofNat x) (Or.inl ⟨rfl, by omega⟩))), ?_⟩
  · rw [e1', jbO_some, jk_some, E_r_readSingle_30, if_neg n10, e2, jbO_some, jk_some, E_r_readSingle_35]
    simp +decide only [if_false, if_true]
  · rw [e3', jbO_some, jk_some, E_m_line_145, r0, jbO_some, jk_none, E_m_line_146]
  · obtain ⟨q0, q1, q2, q3, q4, q6, q7, q5, q8, q9, q10⟩ := hN
    refine ⟨W, H, Sc, fl, Wn, kn, cr, e4, rTp_c (jup_ne (by omega)) h2, by rw [mk 9 (by omega), jup_ne (by omega)]; exact h3, by rw [mk 13 (by omega), jup_ne (by omega)]; exact h13, ?_, ?_, ?_, ?_, ?_, ?_⟩
    · exact told_up (a := 7) (c := 8) hT (by decide) (by rw [fk 2 (by omega), jup_same]; rfl) (by rw [fk 5 (by omega), jup_ne (by omega)]) (by rw [mk 2 (by omega), jup_same]; rfl)
    · unfold rNum
      rw [jup_same, mk 3 (by omega), mk 14 (by omega), fk 4 (by omega)]
      simp (disch := omega) only [jup_ne, jup_same, Nat.reduceAdd]
      exact ⟨q0, q1, q2, q3, q4, q6, q7, q5, q8, q9, q10⟩
    · intro c hc
      rw [fk 3 (by omega), jup_ne (by omega), jup_ne (by omega)]
      exact hC c hc
    · refine ⟨fun i hi => ?_, fun q => by rw [fk 5 (by omega), jup_ne (by omega)]; exact hS.2 q⟩
      simp (disch := omega) only [jup_ne]
      exact hS.1 i hi
    · intro d hd; rw [jup_ne (by omega)]; exact hW d hd
    · intro r hr
      refine rLw_c (hL r hr) (Nat.le_refl kn) rfl rfl rfl (by rw [jup_ne (by omega)]) (by rw [jup_ne (by omega)]) (fun k _ => ⟨by rw [jup_ne (by omega)], by rw [jup_ne (by omega)]⟩) (fun q => ?_)
      rw [fk 2 (by omega), jup_same, b_or] at q
      simp at q; exact q.1
