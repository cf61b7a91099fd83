-- READING LINES: a wind
theorem L_wind {D D' N : Nat} {f : Nat → Int32} {g : Nat → Nat → Int32} {n2 : Nat → Nat → Int64} {p : Nat → Nat → Int32} {pa : Nat → Nat → Nat → Int32} {s : Nat → Nat → Int32} {sa : Nat → Nat → Nat → Int32} {sw : Bool} {t : List jE} {z : Nat × Nat × Nat × (Nat → Int32)} {w : Bool} {cx : jCX} {mf : Nat → Int32} {mg : Nat → Nat → Int32} {mn : Nat → Nat → Int64} {mb : Nat → Nat → Int32} {ml : Nat → Int64} {t1 : List jE} {z1 : Nat × Nat × Nat × (Nat → Int32)} (h : rLn N g f (p (jq w)) (pa (jq w)) mf mg) (h7 : mf 7 = 0) (h8 : mf 8 = 6) : ((∃ f' p' pa' mf' mg' d', K_r_readWind D w f g n2 p pa s sa sw t z = some (.inl (some (.int 1)), (jX f' g n2 p' pa' s sa sw (.ref (jpl w)) t, z)) ∧ K_m_line D' cx mf mg mn mb ml t1 z1 = K_m_line_149 D' d' cx mf' mg' mn mb ml t1 z1 ∧ lF (jq w) f p pa mf mg f' p' pa' mf' mg' ∧ rLn N g f' (p' (jq w)) (pa' (jq w)) mf' mg') ∨ (∃ f' p' pa' mf' mg', K_r_readWind D w f g n2 p pa s sa sw t z = some (.inl (some (.int 0)), (jX f' g n2 p' pa' s sa sw (.ref (jpl w)) t, z)) ∧ K_m_line D' cx mf mg mn mb ml t1 z1 = some (.inl none, (jXt cx (jY mf' mg' mn mb ml t1), z1)) ∧ lF (jq w) f p pa mf mg f' p' pa' mf' mg' ∧ ¬ mf' 9 = 0 ∧ f' 7 = mf' 9 ∧ f' 8 = mf' 10)) := by
  have n10 : ¬ (1 : Int32) = 0 := by decide
  obtain ⟨W, H, Sc, fl, Wn, kn, cr, h1, h2, h3, h13, hT, hN, hC, hS, hW, hL⟩ := id h
  obtain ⟨q0, q1, q2, q3, q4, q6, q7, ⟨q5, q5', q5''⟩, q8, q9, q10⟩ := id hN
  have hfr : K_m_fresher D' 6 cx mf mg mn mb ml t1 z1 = some (.inl (some (.int (mg 1 17))), (jXt cx (jY mf mg mn mb ml t1), z1)) := M_fresher (x := 6) (by omega)
  have hfull : K_m_isFull D' 6 cx mf mg mn mb ml t1 z1 = if mg 1 17 = 14 then some (.inl (some (.int 1)), (jXt cx (jY mf mg mn mb ml t1), z1)) else some (.inl (some (.int 0)), (jXt cx (jY mf mg mn mb ml t1), z1)) := by
    simp +decide only [E_m_isFull, E_m_isFull_8, E_m_isFull_16, E_m_isFull_24, if_false, if_true, hfr, jbO_some, jbO_none, jbO_ite, jk_some, jk_none, E_m_isFull_30]
  have honce : K_m_isOnce D' 6 cx mf mg mn mb ml t1 z1 = some (.inl (some (.int 0)), (jXt cx (jY mf mg mn mb ml t1), z1)) := by simp +decide only [E_m_isOnce, if_false]
  rw [E_m_line, if_pos h7, h8, if_neg (by decide), hfull, E_r_readWind]
  by_cases hf : Wn < 14
  rotate_left
  · right
    have hWn : Wn = 14 := by omega
    obtain ⟨x3, x4, x5, x6⟩ := lfail (v := jq w) (k := 2) (p := p) (pa := pa) (mg := mg) h1 (by decide)
    refine ⟨_, p, pa, _, mg, ?_, ?_, x3, x4, x5, x6⟩
    · rw [if_neg (by rw [q5]; exact jlt_n (b := 14) (by omega) (by omega)), E_r_fail, jbO_some, jk_some, E_r_readWind_8, if_pos (Or.inl rfl)]
    · rw [if_pos (by rw [q5', hWn]; rfl), jbO_some, jk_some, E_m_line_17, if_neg n10, M_wrong h3, jbO_some, jk_none, E_m_line_21, B_line_49 x4]
  have hn14 : ¬ mg 1 17 = 14 := by rw [q5']; intro q; have := jofinj (b := 14) (by omega) (by omega) q; omega
  rw [if_pos (by rw [q5]; exact jlt_t (b := 14) hf (by omega)), if_neg hn14, jbO_some, jk_some, E_m_line_17, if_pos rfl, honce, jbO_some, jk_some, E_m_line_24, if_pos rfl, E_m_line_37, if_neg (by decide), E_m_line_49, if_pos h3]
  have hT0 : rTok N f (jup mf 2 (mf 2 ||| ((1 : Int32) <<< (6 &&& 31)))) := rTok_c (fun _ _ _ => rfl) (fun k a b => jup_ne (by omega)) h1
  have hF1 : lF (jq w) f p pa mf mg f p pa (jup mf 2 (mf 2 ||| ((1 : Int32) <<< (6 &&& 31)))) mg := lF.up (fun _ _ => rfl) (fun _ _ => rfl) (fun _ _ => rfl) (fun k hk => jup_ne (by omega)) lH.rf
  obtain ⟨f1, mf1, s1, s2, s3, s4, s5, -, s7, -⟩ := L_step (D := D) (D' := D') (f := f) (g := g) (n2 := n2) (p := p) (pa := pa) (s := s) (sa := sa) (sw := sw) (rp := .ref (jpl w)) (t := t) (z := z) (cx := cx) (mf := jup mf 2 (mf 2 ||| ((1 : Int32) <<< (6 &&& 31)))) (mg := mg) (mn := mn) (mb := mb) (ml := ml) (t1 := t1) (z1 := z1) hT0 h2
  have m19 : mf1 9 = 0 := by rw [s5 9 (by omega), jup_ne (by omega)]; exact h3
  have h63 : jev D' 160 63 ([some (.ref 79), some (.int 6)], []) [] ((jXt cx (jY mf1 mg mn mb ml t1), z1)) = jbO (K_m_numeral D' 0 9 cx mf1 mg mn mb ml t1 z1) (jk D' 160 121 ([some (.ref 79), some (.int 6)], []) [.int (14 + mg 1 17), .ref 89]) := by
    have hfr1 : K_m_fresher D' 6 cx mf1 mg mn mb ml t1 z1 = some (.inl (some (.int (mg 1 17))), (jXt cx (jY mf1 mg mn mb ml t1), z1)) := M_fresher (x := 6) (by omega)
    rw [E_m_line_63]
    simp +decide only [if_false, if_true]
    rw [hfr1, jbO_some, jk_some, E_m_line_116]
  rw [s1, jbO_some, jk_none, E_r_readWind_12, s2, jbO_some, jk_none, h63]
  have hix : (14 : Int32) + mg 1 17 = Int32.ofNat (14 + Wn) := by rw [q5']; exact jofadd (a := 14)
  have hN1 := L_num (D := D) (D' := D') (a := 0) (b0 := 9) (f := f1) (g := g) (n2 := n2) (p := p) (pa := pa) (s := s) (sa := sa) (sw := sw) (t := t) (z := z) (w := w) (cx := cx) (mf := mf1) (mg := mg) (mn := mn) (mb := mb) (ml := ml) (t1 := t1) (z1 := z1) s3 h2 m19 (by omega) (by omega)
  -- how the reference goes on with what it took
  have hgo : ∀ (mf2 : Nat → Int32) (v : Int32), jev D' 160 121 ([some (.ref 79), some (.int 6)], []) [.int v, .int (14 + mg 1 17), .ref 89] ((jXt cx (jY mf2 mg mn mb ml t1), z1)) = K_m_line_149 D' (some (.int 6)) cx mf2 (jup (jup mg 9 (jup (mg 9) (14 + Wn) v)) 1 (jup (mg 1) 17 (Int32.ofNat (Wn + 1)))) mn mb ml t1 z1 := by
    intro mf2 v
    have hfr2 : K_m_fresher D' 6 cx mf2 (jup mg 9 (jup (mg 9) (14 + Wn) v)) mn mb ml t1 z1 = some (.inl (some (.int (mg 1 17))), (jXt cx (jY mf2 (jup mg 9 (jup (mg 9) (14 + Wn) v)) mn mb ml t1), z1)) := by
      have := M_fresher (D := D') (x := 6) (cx := cx) (f := mf2) (g := jup mg 9 (jup (mg 9) (14 + Wn) v)) (n := mn) (b := mb) (l := ml) (t := t1) (z := z1) (by omega)
      rw [jup_ne (show (1 : Nat) ≠ 9 by omega)] at this
      exact this
    have r6 : ∀ u, K_m_reads D' 6 u cx mf2 (jup mg 9 (jup (mg 9) (14 + Wn) v)) mn mb ml t1 z1 = _ := fun u => M_reads (x := 6) (by omega)
    rw [hix, E_m_line_121, if_neg (jout_n (by omega) (by omega)), jclamp (show 14 + Wn < 2147483648 by omega), hfr2, jbO_some, jk_some, E_m_line_127, q5', jsucc, r6, jbO_some, jk_none, E_m_line_130, jup_ne (show (1 : Nat) ≠ 9 by omega)]
  have hlH : ∀ v : Int32, lH mg (jup (jup mg 9 (jup (mg 9) (14 + Wn) v)) 1 (jup (mg 1) 17 (Int32.ofNat (Wn + 1)))) := by
    intro v
    have a1 := lH.up (mg := mg) (k := 9) (i := 14 + Wn) (v := v) (Or.inr (Or.inr (Or.inr (Or.inl ⟨rfl, by omega⟩))))
    have a2 := lH.up (mg := jup mg 9 (jup (mg 9) (14 + Wn) v)) (k := 1) (i := 17) (v := Int32.ofNat (Wn + 1)) (Or.inl ⟨rfl, by omega⟩)
    rw [jup_ne (show (1 : Nat) ≠ 9 by omega)] at a2
    exact a1.tr a2
  rcases hN1 with ⟨x, f2, mf2, hx1, hx2, e1, e2, e3, e4, e5, e6, e7⟩ | ⟨f2, mf2, e1, e3, e7, b1, b2, b3⟩
  rotate_left
  · right
    have e1' : K_r_isNumber D w 0 9 f1 g n2 p pa s sa sw t z = _ := e1
    have e3' : K_m_numeral D' 0 9 cx mf1 mg mn mb ml t1 z1 = _ := e3
    refine ⟨f2, p, pa, mf2, _, ?_, ?_, ((hF1.tr (s7 _)).tr (e7 _)).tr (lF.up (fun _ _ => rfl) (fun _ _ => rfl) (fun _ _ => rfl) (fun _ _ => rfl) (hlH (Int32.ofNat 0))), b1, b2, b3⟩
    · rw [e1', jbO_some, jk_some, E_r_readWind_16, if_pos rfl]
    · rw [e3', jbO_some, jk_some]
      have := hgo mf2 (Int32.ofNat 0)
      rw [B_line_149 b1] at this
      exact this
  left
  have e1' : K_r_isNumber D w 0 9 f1 g n2 p pa s sa sw t z = _ := e1
  have e3' : K_m_numeral D' 0 9 cx mf1 mg mn mb ml t1 z1 = _ := e3
  have fk : ∀ k, k < 10 ∨ 13 < k → f2 k = f k := fun k hk => by rw [e5 k hk, s4 k hk]
  have mk : ∀ k, k < 4 ∨ 8 < k → mf2 k = (jup mf 2 (mf 2 ||| ((1 : Int32) <<< (6 &&& 31)))) k := fun k hk => by rw [e6 k hk, s5 k hk]
  refine ⟨f2, jup p (jq w) (jup (p (jq w)) 5 (Int32.ofNat (Wn + 1))), jup pa (jq w) (jup (pa (jq w)) 7 (jup (pa (jq w) 7) Wn (Int32.ofNat x))), mf2, _, some (.int 6), ?_, ?_, ((hF1.tr (s7 _)).tr (e7 _)).tr (lF.up (fun _ _ => rfl) (fun j hj => jup_ne hj) (fun j hj => jup_ne hj) (fun _ _ => rfl) (hlH (Int32.ofNat x))), ?_⟩
  · rw [e1', jbO_some, jk_some, E_r_readWind_16, if_neg n10, e2, jbO_some, jk_some, E_r_readWind_27, q5, if_neg (jout_n (by omega) (by omega)), jclamp (show Wn < 2147483648 by omega), jsucc]
  · rw [e3', jbO_some, jk_some]
    exact hgo mf2 (Int32.ofNat x)
  · rw [jup_same, jup_same]
    refine ⟨W, H, Sc, fl, Wn + 1, kn, cr, e4, rTp_c (by rw [jup_ne (by omega), jup_ne (by omega)]) h2, by rw [mk 9 (by omega), jup_ne (by omega)]; exact h3, by rw [mk 13 (by omega), jup_ne (by omega)]; exact h13, ?_, ?_, ?_, ?_, ?_, ?_⟩
    · exact told_up2 (c := 6) hT (by decide) (fk 2 (by omega)) (fk 5 (by omega)) (by rw [mk 2 (by omega), jup_same]; rfl)
    · unfold rNum
      rw [jup_same, mk 3 (by omega), mk 14 (by omega), fk 4 (by omega)]
      simp (disch := omega) only [jup_ne, jup_same]
      exact ⟨q0, q1, q2, q3, q4, q6, q7, ⟨trivial, trivial, by omega⟩, q8, q9, q10⟩
    · intro c hc
      rw [fk 3 (by omega)]
      simp (disch := omega) only [jup_ne]
      exact hC c hc
    · refine ⟨fun i hi => ?_, fun q => by rw [fk 5 (by omega)]; exact hS.2 q⟩
      simp (disch := omega) only [jup_ne]
      exact hS.1 i hi
    · intro d hd
      rw [jup_ne (by omega), jup_same, jup_same]
      by_cases hdw : d = Wn
      · subst hdw; rw [jup_same, jup_same]
      · rw [jup_ne hdw, jup_ne (by omega)]; exact hW d (by omega)
    · intro r hr
      refine rLw_c (hL r hr) (Nat.le_refl kn) (by rw [jup_ne (by omega)]) (by rw [jup_ne (by omega)]) (by rw [jup_ne (by omega)]) (by rw [jup_ne (by omega), jup_ne (by omega)]) (by rw [jup_ne (by omega), jup_ne (by omega)]) (fun k _ => ⟨by rw [jup_ne (by omega), jup_ne (by omega)], by rw [jup_ne (by omega), jup_ne (by omega)]⟩) (fun q => ?_)
      rw [fk 2 (by omega)] at q; exact q
