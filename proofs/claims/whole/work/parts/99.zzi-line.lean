-- READING LINES: a line, all of them
theorem S_single_bad {D : Nat} {x : Int32} {w : Bool} {f : Nat → Int32} {g : Nat → Nat → Int32} {n2 : Nat → Nat → Int64} {p : Nat → Nat → Int32} {pa : Nat → Nat → Nat → Int32} {s : Nat → Nat → Int32} {sa : Nat → Nat → Nat → Int32} {sw : Bool} {t : List jE} {z : Nat × Nat × Nat × (Nat → Int32)} (h4 : ¬ x = 4) (h5 : ¬ x = 5) (h6 : ¬ x = 6) (h7 : ¬ x = 7) : K_r_readSingle D w x f g n2 p pa s sa sw t z = some (.inl (some (.int 0)), (jX (jup (jup f 7 1) 8 (f 13)) g n2 p pa s sa sw (.ref (jpl w)) t, z)) := by
  rw [E_r_readSingle, if_neg h4, if_neg h5, if_neg h6, if_neg h7, E_r_fail, jbO_some, jk_some, E_r_readSingle_15, if_pos (Or.inl rfl)]
theorem wmp_line : ∀ x, x < 22 → (wmp x ≤ 9 ↔ (x < 9 ∨ x = 17)) ∧ (x < 6 → wmp x = x) ∧ (x = 6 → wmp x = 7) ∧ (x = 7 → wmp x = 8) ∧ (x = 8 → wmp x = 9) ∧ (x = 17 → wmp x = 6) := by decide +kernel
/-- behind what a line tells comes its end -/
theorem L_end {D D' N : Nat} {d : Option Value} {f : Nat → Int32} {g : Nat → Nat → Int32} {n2 : Nat → Nat → Int64} {p : Nat → Nat → Int32} {pa : Nat → Nat → Nat → Int32} {s : Nat → Nat → Int32} {sa : Nat → Nat → Nat → Int32} {sw : Bool} {t : List jE} {z : Nat × Nat × Nat × (Nat → Int32)} {w : Bool} {cx : jCX} {mf : Nat → Int32} {mg : Nat → Nat → Int32} {mn : Nat → Nat → Int64} {mb : Nat → Nat → Int32} {ml : Nat → Int64} {t1 : List jE} {z1 : Nat × Nat × Nat × (Nat → Int32)} (h : rLn N g f (p (jq w)) (pa (jq w)) mf mg) :
    (∃ f' p' mf', K_r_readLine_43 D w 1 f g n2 p pa s sa sw t z = some (.inl (some (.int 1)), (jX f' g n2 p' pa s sa sw (.ref (jpl w)) t, z)) ∧ K_m_line_149 D' d cx mf mg mn mb ml t1 z1 = some (.inl none, (jXt cx (jY mf' mg mn mb ml t1), z1)) ∧ lF (jq w) f p pa mf mg f' p' pa mf' mg ∧ rLn N g f' (p' (jq w)) (pa (jq w)) mf' mg ∧ jmu N f' ≤ N - (f 10).toNatClampNeg) ∨
    (∃ f' mf', K_r_readLine_43 D w 1 f g n2 p pa s sa sw t z = some (.inl (some (.int 0)), (jX f' g n2 p pa s sa sw (.ref (jpl w)) t, z)) ∧ K_m_line_149 D' d cx mf mg mn mb ml t1 z1 = some (.inl none, (jXt cx (jY mf' mg mn mb ml t1), z1)) ∧ lF (jq w) f p pa mf mg f' p pa mf' mg ∧ ¬ mf' 9 = 0 ∧ f' 7 = mf' 9 ∧ f' 8 = mf' 10) := by
  have n10 : ¬ (1 : Int32) = 0 := by decide
  obtain ⟨W, H, Sc, fl, Wn, kn, cr, h1, h2, h3, h13, hT, hN, hC, hS, hW, hL⟩ := id h
  have hsg := tk_sign h1.2.2 (a := 100) (c := 59) (by decide)
  rw [E_r_readLine_43, if_neg n10, S_k_isSign, E_m_line_149, if_pos h3, M_isSign]
  by_cases hs : f 11 = 5 ∧ f 12 = 100
  rotate_left
  · right
    obtain ⟨x3, x4, x5, x6⟩ := lfail (v := jq w) (k := 1) (p := p) (pa := pa) (mg := mg) h1 (by decide)
    refine ⟨_, jup (jup (jup mf 10 (mf 6)) 9 1) 3 ((jup (jup mf 10 (mf 6)) 9 1) 3 + 1), ?_, ?_, x3.tr ⟨fun _ _ => rfl, fun _ _ => ⟨rfl, rfl⟩, fun k hk => by rw [jup_ne (by omega)], lH.rf, Nat.le_refl _, fun q => ⟨by rw [jup_ne (by omega)] at q; exact q, rfl, rfl, by rw [jup_ne (by omega)]⟩⟩, ?_, ?_, ?_⟩
    · rw [if_neg hs, jbO_some, jk_some, E_r_readLine_51, if_pos rfl, E_r_fail, jbO_some, jk_some, E_r_readLine_55, if_pos (Or.inl rfl)]
    · rw [if_neg (fun q : mf 9 = 0 ∧ mf 7 = 3 ∧ mf 8 = 59 => hs (hsg.mpr q.2)), jbO_some, jk_some, E_m_line_156, if_pos rfl, M_wrong h3, jbO_some, jk_none, E_m_line_160, E_m_line_163]
    · rw [jup_ne (by omega)]; exact x4
    · rw [jup_ne (show (9 : Nat) ≠ 3 by omega)]; exact x5
    · rw [jup_ne (show (10 : Nat) ≠ 3 by omega)]; exact x6
  left
  obtain ⟨f', mf', e1, e2, e3, e4, e5, -, e7, e8⟩ := L_step (D := D) (D' := D') (f := f) (g := g) (n2 := n2) (p := p) (pa := pa) (s := s) (sa := sa) (sw := sw) (rp := .ref (jpl w)) (t := t) (z := z) (cx := cx) (mf := mf) (mg := mg) (mn := mn) (mb := mb) (ml := ml) (t1 := t1) (z1 := z1) h1 h2
  refine ⟨f', jup p (jq w) (jup (p (jq w)) 0 (p (jq w) 0 + 1)), jup mf' 3 (mf' 3 + 1), ?_, ?_, (e7 _).tr ⟨fun _ _ => rfl, fun j hj => ⟨jup_ne hj, rfl⟩, fun k hk => by rw [jup_ne (by omega)], lH.rf, Nat.le_refl _, fun q => ⟨by rw [jup_ne (by omega)] at q; exact q, rfl, rfl, by rw [jup_ne (by omega)]⟩⟩, ?_, ?_⟩
  · rw [if_pos hs, jbO_some, jk_some, E_r_readLine_51, if_neg n10, e1, jbO_some, jk_none, E_r_readLine_59]
  · rw [if_pos (⟨h3, hsg.mp hs⟩ : mf 9 = 0 ∧ mf 7 = 3 ∧ mf 8 = 59), jbO_some, jk_some, E_m_line_156, if_neg n10, e2, jbO_some, jk_none, F_m_line_163, E_m_line_163]
  · rw [jup_same]
    obtain ⟨q0, q1, q2, q3, q4, q6, q7, q5, q8, q9, q10⟩ := hN
    refine ⟨W, H, Sc, fl, Wn, kn, cr, rTok_c (fun _ _ _ => rfl) (fun k a b => jup_ne (by omega)) e3, h2, by rw [jup_ne (by omega), e5 9 (by omega)]; exact h3, by rw [jup_ne (by omega), e5 13 (by omega)]; exact h13, ?_, ?_, ?_, ?_, hW, ?_⟩
    · unfold rTold at hT ⊢
      rw [e4 2 (by omega), e4 5 (by omega), jup_ne (by omega), e5 2 (by omega)]; exact hT
    · unfold rNum
      rw [e4 4 (by omega), e5 3 (by omega)]
      simp (disch := omega) only [jup_ne, jup_same]
      rw [e5 14 (by omega)]
      exact ⟨by rw [q0], q1, q2, q3, q4, q6, q7, q5, q8, q9, q10⟩
    · unfold rCrop at hC ⊢; rw [e4 3 (by omega)]; exact hC
    · unfold rScr at hS ⊢; rw [e4 5 (by omega)]; exact hS
    · intro r hr
      refine rLw_c (hL r hr) (Nat.le_refl kn) (jup_ne (by omega)) rfl rfl rfl rfl (fun k _ => ⟨rfl, rfl⟩) (fun q => ?_)
      rw [e4 2 (by omega)] at q; exact q
  · exact e8
theorem L_fin {D D' N : Nat} {KX : Option (jO × jH)} {f : Nat → Int32} {g : Nat → Nat → Int32} {n2 : Nat → Nat → Int64} {p : Nat → Nat → Int32} {pa : Nat → Nat → Nat → Int32} {s : Nat → Nat → Int32} {sa : Nat → Nat → Nat → Int32} {sw : Bool} {t : List jE} {z : Nat × Nat × Nat × (Nat → Int32)} {w : Bool} {cx : jCX} {mf : Nat → Int32} {mg : Nat → Nat → Int32} {mn : Nat → Nat → Int64} {mb : Nat → Nat → Int32} {ml : Nat → Int64} {t1 : List jE} {z1 : Nat × Nat × Nat × (Nat → Int32)} (hx : ((∃ f' p' pa' mf' mg' d', KX = some (.inl (some (.int 1)), (jX f' g n2 p' pa' s sa sw (.ref (jpl w)) t, z)) ∧ K_m_line D' cx mf mg mn mb ml t1 z1 = K_m_line_149 D' d' cx mf' mg' mn mb ml t1 z1 ∧ lF (jq w) f p pa mf mg f' p' pa' mf' mg' ∧ rLn N g f' (p' (jq w)) (pa' (jq w)) mf' mg') ∨ (∃ f' p' pa' mf' mg', KX = some (.inl (some (.int 0)), (jX f' g n2 p' pa' s sa sw (.ref (jpl w)) t, z)) ∧ K_m_line D' cx mf mg mn mb ml t1 z1 = some (.inl none, (jXt cx (jY mf' mg' mn mb ml t1), z1)) ∧ lF (jq w) f p pa mf mg f' p' pa' mf' mg' ∧ ¬ mf' 9 = 0 ∧ f' 7 = mf' 9 ∧ f' 8 = mf' 10)))
    (hK : ∀ (f' : Nat → Int32) (p' : Nat → Nat → Int32) (pa' : Nat → Nat → Nat → Int32) (u : Int32), KX = some (.inl (some (.int u)), (jX f' g n2 p' pa' s sa sw (.ref (jpl w)) t, z)) → K_r_readLine D w f g n2 p pa s sa sw t z = K_r_readLine_43 D w u f' g n2 p' pa' s sa sw t z) :
    (∃ f' p' pa' mf' mg', K_r_readLine D w f g n2 p pa s sa sw t z = some (.inl (some (.int 1)), (jX f' g n2 p' pa' s sa sw (.ref (jpl w)) t, z)) ∧ K_m_line D' cx mf mg mn mb ml t1 z1 = some (.inl none, (jXt cx (jY mf' mg' mn mb ml t1), z1)) ∧ lF (jq w) f p pa mf mg f' p' pa' mf' mg' ∧ rLn N g f' (p' (jq w)) (pa' (jq w)) mf' mg' ∧ jmu N f' ≤ N - (f 10).toNatClampNeg) ∨
    (∃ f' p' pa' mf' mg', K_r_readLine D w f g n2 p pa s sa sw t z = some (.inl (some (.int 0)), (jX f' g n2 p' pa' s sa sw (.ref (jpl w)) t, z)) ∧ K_m_line D' cx mf mg mn mb ml t1 z1 = some (.inl none, (jXt cx (jY mf' mg' mn mb ml t1), z1)) ∧ lF (jq w) f p pa mf mg f' p' pa' mf' mg' ∧ ¬ mf' 9 = 0 ∧ f' 7 = mf' 9 ∧ f' 8 = mf' 10) := by
  rcases hx with ⟨f1, p1, pa1, mf1, mg1, d1, e1, e2, e3, e4⟩ | ⟨f1, p1, pa1, mf1, mg1, e1, e2, e3, b1, b2, b3⟩
  rotate_left
  · right
    refine ⟨f1, p1, pa1, mf1, mg1, ?_, e2, e3, b1, b2, b3⟩
    rw [hK _ _ _ _ e1, E_r_readLine_43, if_pos rfl]
  rw [hK _ _ _ _ e1, e2]
  rcases L_end (D := D) (D' := D') (d := d1) (n2 := n2) (s := s) (sa := sa) (sw := sw) (t := t) (z := z) (cx := cx) (mn := mn) (mb := mb) (ml := ml) (t1 := t1) (z1 := z1) e4 with ⟨f2, p2, mf2, c1, c2, c3, c4, c5⟩ | ⟨f2, mf2, c1, c2, c3, b1, b2, b3⟩
  · left
    have := e3.2.2.2.2.1
    exact ⟨f2, p2, pa1, mf2, mg1, c1, c2, e3.tr c3, c4, by omega⟩
  · right
    exact ⟨f2, p1, pa1, mf2, mg1, c1, c2, e3.tr c3, b1, b2, b3⟩
theorem L_line {D D' N : Nat} {f : Nat → Int32} {g : Nat → Nat → Int32} {n2 : Nat → Nat → Int64} {p : Nat → Nat → Int32} {pa : Nat → Nat → Nat → Int32} {s : Nat → Nat → Int32} {sa : Nat → Nat → Nat → Int32} {sw : Bool} {t : List jE} {z : Nat × Nat × Nat × (Nat → Int32)} {w : Bool} {cx : jCX} {mf : Nat → Int32} {mg : Nat → Nat → Int32} {mn : Nat → Nat → Int64} {mb : Nat → Nat → Int32} {ml : Nat → Int64} {t1 : List jE} {z1 : Nat × Nat × Nat × (Nat → Int32)} (hD : 63 ≤ D) (hD' : 119 ≤ D') (h : rLn N g f (p (jq w)) (pa (jq w)) mf mg) :
    (∃ f' p' pa' mf' mg', K_r_readLine D w f g n2 p pa s sa sw t z = some (.inl (some (.int 1)), (jX f' g n2 p' pa' s sa sw (.ref (jpl w)) t, z)) ∧ K_m_line D' cx mf mg mn mb ml t1 z1 = some (.inl none, (jXt cx (jY mf' mg' mn mb ml t1), z1)) ∧ lF (jq w) f p pa mf mg f' p' pa' mf' mg' ∧ rLn N g f' (p' (jq w)) (pa' (jq w)) mf' mg' ∧ jmu N f' ≤ N - (f 10).toNatClampNeg) ∨
    (∃ f' p' pa' mf' mg', K_r_readLine D w f g n2 p pa s sa sw t z = some (.inl (some (.int 0)), (jX f' g n2 p' pa' s sa sw (.ref (jpl w)) t, z)) ∧ K_m_line D' cx mf mg mn mb ml t1 z1 = some (.inl none, (jXt cx (jY mf' mg' mn mb ml t1), z1)) ∧ lF (jq w) f p pa mf mg f' p' pa' mf' mg' ∧ ¬ mf' 9 = 0 ∧ f' 7 = mf' 9 ∧ f' 8 = mf' 10) := by
  obtain ⟨W, H, Sc, fl, Wn, kn, cr, h1, h2, h3, -⟩ := id h
  obtain ⟨x3, x4, x5, x6⟩ := lfail (v := jq w) (k := 1) (p := p) (pa := pa) (mg := mg) h1 (by decide)
  have b7 : ∀ d, K_m_line_7 D' d cx mf mg mn mb ml t1 z1 = some (.inl none, (jXt cx (jY (jup (jup mf 10 (mf 6)) 9 1) mg mn mb ml t1), z1)) := by
    intro d; rw [E_m_line_7, M_wrong h3, jbO_some, jk_none, E_m_line_10]
  have hw4 := tk_wd h1.2.2
  by_cases hk4 : f 11 = 4
  rotate_left
  · right
    refine ⟨_, p, pa, _, mg, ?_, ?_, x3, x4, x5, x6⟩
    · rw [E_r_readLine, if_neg hk4, E_r_fail, jbO_some, jk_some, E_r_readLine_8, if_pos (Or.inl rfl)]
    · rw [E_m_line, if_neg (fun q => hk4 (hw4.mpr q)), b7]
  have hm7 := hw4.mp hk4
  obtain ⟨x, hx22, hvl, hva⟩ : ∃ x, x < 22 ∧ f 12 = Int32.ofNat x ∧ mf 8 = Int32.ofNat (wmp x) := by
    rcases h1.2.2 with ⟨a1, -⟩ | ⟨a1, -⟩ | ⟨a1, -⟩ | ⟨a1, -⟩ | ⟨-, -, x, a, b, c⟩ | ⟨a1, -⟩
    · rw [a1] at hk4; exact absurd hk4 (by decide)
    · rw [a1] at hk4; exact absurd hk4 (by decide)
    · rw [a1] at hk4; exact absurd hk4 (by decide)
    · rw [a1] at hk4; exact absurd hk4 (by decide)
    · exact ⟨x, a, b, c⟩
    · rw [a1] at hk4; exact absurd hk4 (by decide)
  have hw23 := wmp_lt x hx22
  have hwl := (wmp_line x hx22).1
  by_cases hx : x < 9 ∨ x = 17
  rotate_left
  · right
    have hE : K_r_readLine D w f g n2 p pa s sa sw t z = jbO (K_r_readSingle D w (f 12) f g n2 p pa s sa sw t z) (jk D 51 42 ([some (.ref 1), none], []) []) := by
      rw [E_r_readLine, if_pos hk4, hvl]
      rcases (show x = 9 ∨ x = 10 ∨ x = 11 ∨ x = 12 ∨ x = 13 ∨ x = 14 ∨ x = 15 ∨ x = 16 ∨ x = 18 ∨ x = 19 ∨ x = 20 ∨ x = 21 by omega) with rfl | rfl | rfl | rfl | rfl | rfl | rfl | rfl | rfl | rfl | rfl | rfl <;> simp +decide only [if_true, if_false]
    have hne : ∀ y : Nat, y < 9 → ¬ f 12 = Int32.ofNat y := by
      intro y hy q; rw [hvl] at q; have := jofinj (by omega) (by omega) q; omega
    refine ⟨_, p, pa, _, mg, ?_, ?_, x3, x4, x5, x6⟩
    · rw [hE, S_single_bad (hne 4 (by omega)) (hne 5 (by omega)) (hne 6 (by omega)) (hne 7 (by omega)), jbO_some, jk_some, E_r_readLine_42, E_r_readLine_43, if_pos rfl]
    · have h9 : 9 < wmp x := by
        rcases Nat.lt_or_ge 9 (wmp x) with a | a
        · exact a
        · exact absurd (hwl.mp a) hx
      rw [E_m_line, if_pos hm7, if_pos (by rw [hva]; exact jlt_t (a := 9) h9 (by omega)), b7]
  have hwx := (wmp_line x hx22).2
  rcases (show x = 0 ∨ x = 1 ∨ x = 2 ∨ x = 3 ∨ x = 4 ∨ x = 5 ∨ x = 6 ∨ x = 7 ∨ x = 8 ∨ x = 17 by omega) with rfl | rfl | rfl | rfl | rfl | rfl | rfl | rfl | rfl | rfl
  · exact L_fin (KX := K_r_readField D w f g n2 p pa s sa sw t z) (L_field h hm7 (by rw [hva, hwx.1 (by omega)]; rfl)) (by
      intro f' p' pa' u e
      rw [E_r_readLine, if_pos hk4, hvl]
      simp +decide only [if_true]
      rw [e, jbO_some, jk_some, E_r_readLine_15])
  · exact L_fin (KX := K_r_readCrop D w f g n2 p pa s sa sw t z) (L_crop h hm7 (by rw [hva, hwx.1 (by omega)]; rfl)) (by
      intro f' p' pa' u e
      rw [E_r_readLine, if_pos hk4, hvl]
      simp +decide only [if_true, if_false]
      rw [e, jbO_some, jk_some, E_r_readLine_19])
  · exact L_fin (KX := K_r_readScare D w f g n2 p pa s sa sw t z) (L_scare h hm7 (by rw [hva, hwx.1 (by omega)]; rfl)) (by
      intro f' p' pa' u e
      rw [E_r_readLine, if_pos hk4, hvl]
      simp +decide only [if_true, if_false]
      rw [e, jbO_some, jk_some, E_r_readLine_23])
  · exact L_fin (KX := K_r_readFlap D w f g n2 p pa s sa sw t z) (L_flap h hm7 (by rw [hva, hwx.1 (by omega)]; rfl)) (by
      intro f' p' pa' u e
      rw [E_r_readLine, if_pos hk4, hvl]
      simp +decide only [if_true, if_false]
      rw [e, jbO_some, jk_some, E_r_readLine_27])
  · exact L_fin (KX := K_r_readSingle D w 4 f g n2 p pa s sa sw t z) (L_most h hm7 (by rw [hva, hwx.1 (by omega)]; rfl)) (by
      intro f' p' pa' u e
      rw [E_r_readLine, if_pos hk4, hvl]
      simp +decide only [if_true, if_false]
      have e' : K_r_readSingle D w (Int32.ofNat 4) f g n2 p pa s sa sw t z = _ := e
      rw [e', jbO_some, jk_some, E_r_readLine_42])
  · exact L_fin (KX := K_r_readSingle D w 5 f g n2 p pa s sa sw t z) (L_crows h hm7 (by rw [hva, hwx.1 (by omega)]; rfl)) (by
      intro f' p' pa' u e
      rw [E_r_readLine, if_pos hk4, hvl]
      simp +decide only [if_true, if_false]
      have e' : K_r_readSingle D w (Int32.ofNat 5) f g n2 p pa s sa sw t z = _ := e
      rw [e', jbO_some, jk_some, E_r_readLine_42])
  · exact L_fin (KX := K_r_readSingle D w 6 f g n2 p pa s sa sw t z) (L_gust h hm7 (by rw [hva, hwx.2.1 rfl]; rfl)) (by
      intro f' p' pa' u e
      rw [E_r_readLine, if_pos hk4, hvl]
      simp +decide only [if_true, if_false]
      have e' : K_r_readSingle D w (Int32.ofNat 6) f g n2 p pa s sa sw t z = _ := e
      rw [e', jbO_some, jk_some, E_r_readLine_42])
  · exact L_fin (KX := K_r_readSingle D w 7 f g n2 p pa s sa sw t z) (L_seed h hm7 (by rw [hva, hwx.2.2.1 rfl]; rfl)) (by
      intro f' p' pa' u e
      rw [E_r_readLine, if_pos hk4, hvl]
      simp +decide only [if_true, if_false]
      have e' : K_r_readSingle D w (Int32.ofNat 7) f g n2 p pa s sa sw t z = _ := e
      rw [e', jbO_some, jk_some, E_r_readLine_42])
  · exact L_fin (KX := K_r_readLaw D w f g n2 p pa s sa sw t z) (L_law hD hD' h hm7 (by rw [hva, hwx.2.2.2.1 rfl]; rfl)) (by
      intro f' p' pa' u e
      rw [E_r_readLine, if_pos hk4, hvl]
      simp +decide only [if_true, if_false]
      rw [e, jbO_some, jk_some, E_r_readLine_35])
  · exact L_fin (KX := K_r_readWind D w f g n2 p pa s sa sw t z) (L_wind h hm7 (by rw [hva, hwx.2.2.2.2 rfl]; rfl)) (by
      intro f' p' pa' u e
      rw [E_r_readLine, if_pos hk4, hvl]
      simp +decide only [if_true, if_false]
      rw [e, jbO_some, jk_some, E_r_readLine_31])
