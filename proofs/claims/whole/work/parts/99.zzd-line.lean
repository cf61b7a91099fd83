-- READING LINES: a cell, a crop
theorem cell_lt {x y W H : Nat} (hx : x < W) (hy : y < H) (hW : W ≤ 6) (hH : H ≤ 5) : y * W + x < W * H ∧ W * H ≤ 30 := by
  constructor
  · have h1 : (y + 1) * W ≤ H * W := Nat.mul_le_mul_right W hy
    rw [Nat.succ_mul, Nat.mul_comm H W] at h1
    omega
  · exact Nat.mul_le_mul hW hH
theorem L_cell {D D' N W H : Nat} {f : Nat → Int32} {g : Nat → Nat → Int32} {n2 : Nat → Nat → Int64} {p : Nat → Nat → Int32} {pa : Nat → Nat → Nat → Int32} {s : Nat → Nat → Int32} {sa : Nat → Nat → Nat → Int32} {sw : Bool} {t : List jE} {z : Nat × Nat × Nat × (Nat → Int32)} {w : Bool} {cx : jCX} {mf : Nat → Int32} {mg : Nat → Nat → Int32} {mn : Nat → Nat → Int64} {mb : Nat → Nat → Int32} {ml : Nat → Int64} {t1 : List jE} {z1 : Nat × Nat × Nat × (Nat → Int32)} (h : rTok N f mf) (ht : rTp N g mg) (h9 : mf 9 = 0) (p1 : p (jq w) 1 = Int32.ofNat W) (p2 : p (jq w) 2 = Int32.ofNat H) (g1 : mg 1 11 = Int32.ofNat W) (g2 : mg 1 12 = Int32.ofNat H) (hW1 : 1 ≤ W) (hW : W ≤ 6) (hH1 : 1 ≤ H) (hH : H ≤ 5) :
    (∃ x y f1 mf1, x < W ∧ y < H ∧ K_r_isNumber D w 0 (p (jq w) 1 - 1) f g n2 p pa s sa sw t z = some (.inl (some (.int 1)), (jX f g n2 p pa s sa sw (.ref (jpl w)) t, z)) ∧ K_r_take D w f g n2 p pa s sa sw t z = some (.inl (some (.int (Int32.ofNat x))), (jX f1 g n2 p pa s sa sw (.ref (jpl w)) t, z)) ∧ K_r_isNumber D w 0 (p (jq w) 2 - 1) f1 g n2 p pa s sa sw t z = some (.inl (some (.int 1)), (jX f1 g n2 p pa s sa sw (.ref (jpl w)) t, z)) ∧ f1 12 = Int32.ofNat y ∧
        K_m_cellAtHand D' cx mf mg mn mb ml t1 z1 = some (.inl (some (.int (Int32.ofNat (y * W + x)))), (jXt cx (jY mf1 mg mn mb ml t1), z1)) ∧ rTok N f1 mf1 ∧ (∀ k, k < 10 ∨ 13 < k → f1 k = f k) ∧ (∀ k, k < 4 ∨ 8 < k → mf1 k = mf k) ∧ (∀ v, lF v f p pa mf mg f1 p pa mf1 mg)) ∨
    (∃ f1 mf1, K_r_isNumber D w 0 (p (jq w) 1 - 1) f g n2 p pa s sa sw t z = some (.inl (some (.int 0)), (jX f1 g n2 p pa s sa sw (.ref (jpl w)) t, z)) ∧ K_m_cellAtHand D' cx mf mg mn mb ml t1 z1 = some (.inl (some (.int 0)), (jXt cx (jY mf1 mg mn mb ml t1), z1)) ∧ (∀ v, lF v f p pa mf mg f1 p pa mf1 mg) ∧ ¬ mf1 9 = 0 ∧ f1 7 = mf1 9 ∧ f1 8 = mf1 10) ∨
    (∃ x f1 f2 mf2, K_r_isNumber D w 0 (p (jq w) 1 - 1) f g n2 p pa s sa sw t z = some (.inl (some (.int 1)), (jX f g n2 p pa s sa sw (.ref (jpl w)) t, z)) ∧ K_r_take D w f g n2 p pa s sa sw t z = some (.inl (some (.int x)), (jX f1 g n2 p pa s sa sw (.ref (jpl w)) t, z)) ∧ K_r_isNumber D w 0 (p (jq w) 2 - 1) f1 g n2 p pa s sa sw t z = some (.inl (some (.int 0)), (jX f2 g n2 p pa s sa sw (.ref (jpl w)) t, z)) ∧ K_m_cellAtHand D' cx mf mg mn mb ml t1 z1 = some (.inl (some (.int 0)), (jXt cx (jY mf2 mg mn mb ml t1), z1)) ∧ (∀ v, lF v f p pa mf mg f2 p pa mf2 mg) ∧ ¬ mf2 9 = 0 ∧ f2 7 = mf2 9 ∧ f2 8 = mf2 10) := by
  have eW : p (jq w) 1 - 1 = Int32.ofNat (W - 1) := by rw [p1]; exact (Int32.ofNat_sub W 1 hW1).symm
  have eH : p (jq w) 2 - 1 = Int32.ofNat (H - 1) := by rw [p2]; exact (Int32.ofNat_sub H 1 hH1).symm
  have eWm : Int32.ofNat W - 1 = Int32.ofNat (W - 1) := (Int32.ofNat_sub W 1 hW1).symm
  have fr0 : ∀ m : Nat → Int32, K_m_fresher D' 0 cx m mg mn mb ml t1 z1 = some (.inl (some (.int (Int32.ofNat W))), (jXt cx (jY m mg mn mb ml t1), z1)) := by
    intro m
    have := M_fresher (D := D') (x := 0) (cx := cx) (f := m) (g := mg) (n := mn) (b := mb) (l := ml) (t := t1) (z := z1) (by omega)
    rw [show (11 + 0 : Nat) = 11 from rfl, g1] at this
    exact this
  have fr1 : ∀ m : Nat → Int32, K_m_fresher D' 1 cx m mg mn mb ml t1 z1 = some (.inl (some (.int (Int32.ofNat H))), (jXt cx (jY m mg mn mb ml t1), z1)) := by
    intro m
    have := M_fresher (D := D') (x := 1) (cx := cx) (f := m) (g := mg) (n := mn) (b := mb) (l := ml) (t := t1) (z := z1) (by omega)
    rw [show (11 + 1 : Nat) = 12 from rfl, g2] at this
    exact this
  have hstart : K_m_cellAtHand D' cx mf mg mn mb ml t1 z1 = jbO (K_m_numeral D' 0 (Int32.ofNat (W - 1)) cx mf mg mn mb ml t1 z1) (jk D' 157 8 ([some (.ref 79), none], []) []) := by
    rw [E_m_cellAtHand, fr0, jbO_some, jk_some, E_m_cellAtHand_5, eWm]
  have hbad : ∀ (m : Nat → Int32) (v : Int32), ¬ m 9 = 0 → jev D' 157 8 ([some (.ref 79), none], []) [.int v] ((jXt cx (jY m mg mn mb ml t1), z1)) = some (.inl (some (.int 0)), (jXt cx (jY m mg mn mb ml t1), z1)) := by
    intro m v hm
    rw [E_m_cellAtHand_8, if_neg hm, E_m_cellAtHand_20, if_neg hm, E_m_cellAtHand_32, if_neg hm]
  rw [eW, eH, hstart]
  rcases L_num (D := D) (D' := D') (a := 0) (b0 := W - 1) (f := f) (g := g) (n2 := n2) (p := p) (pa := pa) (s := s) (sa := sa) (sw := sw) (t := t) (z := z) (w := w) (cx := cx) (mf := mf) (mg := mg) (mn := mn) (mb := mb) (ml := ml) (t1 := t1) (z1 := z1) h ht h9 (by omega) (by omega) with ⟨x, f1, mf1, hx1, hx2, e1, e2, e3, e4, e5, e6, e7⟩ | ⟨f1, mf1, e1, e3, e7, b1, b2, b3⟩
  rotate_left
  · right; left
    have e3' : K_m_numeral D' 0 (Int32.ofNat (W - 1)) cx mf mg mn mb ml t1 z1 = _ := e3
    exact ⟨f1, mf1, e1, by rw [e3', jbO_some, jk_some]; exact hbad _ _ b1, e7, b1, b2, b3⟩
  have e3' : K_m_numeral D' 0 (Int32.ofNat (W - 1)) cx mf mg mn mb ml t1 z1 = _ := e3
  have m19 : mf1 9 = 0 := by rw [e6 9 (by omega)]; exact h9
  rw [e3', jbO_some, jk_some, E_m_cellAtHand_8, if_pos m19]
  rcases L_isnum (D := D) (a := 0) (b0 := H - 1) (f := f1) (g := g) (n2 := n2) (p := p) (pa := pa) (s := s) (sa := sa) (sw := sw) (t := t) (z := z) (w := w) (mf := mf1) e4 (by omega) (by omega) with ⟨y, hy1, hy2, h11, h7, h12, h8, hn1, hn2, hk⟩ | ⟨h7, hk⟩ | ⟨h7, hv, hk⟩
  · left
    refine ⟨x, y, f1, mf1, by omega, by omega, e1, e2, hk, h12, ?_, e4, e5, e6, e7⟩
    rw [if_pos h7, E_m_cellAtHand_20, if_pos m19, fr1, jbO_some, jk_some, E_m_cellAtHand_28, if_pos (by rw [h8]; exact jlt_t (by omega) (by omega)), E_m_cellAtHand_32, if_pos m19, fr0, jbO_some, jk_some, E_m_cellAtHand_42, h8, jofmul, jofadd]
  · right; right
    have hb := fun v => lfail (v := v) (k := 1) (p := p) (pa := pa) (mg := mg) e4 (by decide)
    refine ⟨Int32.ofNat x, f1, _, _, e1, e2, hk, ?_, fun v => (e7 v).tr (hb v).1, (hb 0).2⟩
    rw [if_neg h7, M_wrong m19, jbO_some, jk_none, E_m_cellAtHand_19, E_m_cellAtHand_32, if_neg (by rw [jup_same]; decide)]
  · right; right
    have hb := fun v => lfail (v := v) (k := 2) (p := p) (pa := pa) (mg := mg) e4 (by decide)
    refine ⟨Int32.ofNat x, f1, _, _, e1, e2, hk, ?_, fun v => (e7 v).tr (hb v).1, (hb 0).2⟩
    have hge : ¬ mf1 8 < Int32.ofNat H := by
      rcases hv with q | q
      · have h11 := (tk_num e4.2.2).mpr h7
        rcases e4.2.2 with ⟨a1, -⟩ | ⟨a1, -⟩ | ⟨-, -, a, b, -, hb', -, hb6, -⟩ | ⟨a1, -⟩ | ⟨a1, -⟩ | ⟨a1, -⟩
        · rw [a1] at h11; exact absurd h11 (by decide)
        · rw [a1] at h11; exact absurd h11 (by decide)
        · rw [hb'] at q
          have : (Int32.ofNat b < Int32.ofNat 0) = (b < 0) := jltn (by omega) (by omega)
          rw [this] at q; omega
        · rw [a1] at h11; exact absurd h11 (by decide)
        · rw [a1] at h11; exact absurd h11 (by decide)
        · rw [a1] at h11; exact absurd h11 (by decide)
      · intro q2
        have h11 := (tk_num e4.2.2).mpr h7
        rcases e4.2.2 with ⟨a1, -⟩ | ⟨a1, -⟩ | ⟨-, -, a, b, -, hb', -, hb6, -⟩ | ⟨a1, -⟩ | ⟨a1, -⟩ | ⟨a1, -⟩
        · rw [a1] at h11; exact absurd h11 (by decide)
        · rw [a1] at h11; exact absurd h11 (by decide)
        · rw [hb', jltn (by omega) (by omega)] at q q2; omega
        · rw [a1] at h11; exact absurd h11 (by decide)
        · rw [a1] at h11; exact absurd h11 (by decide)
        · rw [a1] at h11; exact absurd h11 (by decide)
    rw [if_pos h7, E_m_cellAtHand_20, if_pos m19, fr1, jbO_some, jk_some, E_m_cellAtHand_28, if_neg hge, M_wrong m19, jbO_some, jk_none, F_m_cellAtHand_32, E_m_cellAtHand_32, if_neg (by rw [jup_same]; decide)]
theorem L_crop {D D' N : Nat} {f : Nat → Int32} {g : Nat → Nat → Int32} {n2 : Nat → Nat → Int64} {p : Nat → Nat → Int32} {pa : Nat → Nat → Nat → Int32} {s : Nat → Nat → Int32} {sa : Nat → Nat → Nat → Int32} {sw : Bool} {t : List jE} {z : Nat × Nat × Nat × (Nat → Int32)} {w : Bool} {cx : jCX} {mf : Nat → Int32} {mg : Nat → Nat → Int32} {mn : Nat → Nat → Int64} {mb : Nat → Nat → Int32} {ml : Nat → Int64} {t1 : List jE} {z1 : Nat × Nat × Nat × (Nat → Int32)} (h : rLn N g f (p (jq w)) (pa (jq w)) mf mg) (h7 : mf 7 = 0) (h8 : mf 8 = 1) : ((∃ f' p' pa' mf' mg' d', K_r_readCrop D w f g n2 p pa s sa sw t z = some (.inl (some (.int 1)), (jX f' g n2 p' pa' s sa sw (.ref (jpl w)) t, z)) ∧ K_m_line D' cx mf mg mn mb ml t1 z1 = K_m_line_149 D' d' cx mf' mg' mn mb ml t1 z1 ∧ lF (jq w) f p pa mf mg f' p' pa' mf' mg' ∧ rLn N g f' (p' (jq w)) (pa' (jq w)) mf' mg') ∨ (∃ f' p' pa' mf' mg', K_r_readCrop D w f g n2 p pa s sa sw t z = some (.inl (some (.int 0)), (jX f' g n2 p' pa' s sa sw (.ref (jpl w)) t, z)) ∧ K_m_line D' cx mf mg mn mb ml t1 z1 = some (.inl none, (jXt cx (jY mf' mg' mn mb ml t1), z1)) ∧ lF (jq w) f p pa mf mg f' p' pa' mf' mg' ∧ ¬ mf' 9 = 0 ∧ f' 7 = mf' 9 ∧ f' 8 = mf' 10)) := by
  have n10 : ¬ (1 : Int32) = 0 := by decide
  obtain ⟨W, H, Sc, fl, Wn, kn, cr, h1, h2, h3, h13, hT, hN, hC, hS, hW, hL⟩ := id h
  obtain ⟨q0, ⟨q1, q1', hW1, hW6⟩, ⟨q2, q2', hH1, hH5⟩, q3, q4, q6, q7, q5, q8, q9, ⟨q10, q10', q10''⟩⟩ := id hN
  have hfr : K_m_fresher D' 10 cx mf mg mn mb ml t1 z1 = some (.inl (some (.int (mg 1 21))), (jXt cx (jY mf mg mn mb ml t1), z1)) := M_fresher (x := 10) (by omega)
  have hfull : K_m_isFull D' 1 cx mf mg mn mb ml t1 z1 = if mg 1 21 = 16 then some (.inl (some (.int 1)), (jXt cx (jY mf mg mn mb ml t1), z1)) else some (.inl (some (.int 0)), (jXt cx (jY mf mg mn mb ml t1), z1)) := by
    simp +decide only [E_m_isFull, E_m_isFull_8, E_m_isFull_16, E_m_isFull_24, if_false, if_true, hfr, jbO_some, jbO_none, jbO_ite, jk_some, jk_none, E_m_isFull_6]
  have honce : K_m_isOnce D' 1 cx mf mg mn mb ml t1 z1 = some (.inl (some (.int 0)), (jXt cx (jY mf mg mn mb ml t1), z1)) := by simp +decide only [E_m_isOnce, if_false]
  rw [E_m_line, if_pos h7, h8, if_neg (by decide), hfull, E_r_readCrop]
  by_cases hf : cr < 16
  rotate_left
  · right
    have hcr : cr = 16 := by omega
    obtain ⟨x3, x4, x5, x6⟩ := lfail (v := jq w) (k := 2) (p := p) (pa := pa) (mg := mg) h1 (by decide)
    refine ⟨_, p, pa, _, mg, ?_, ?_, x3, x4, x5, x6⟩
    · rw [if_neg (by rw [q10]; exact jlt_n (b := 16) (by omega) (by omega)), E_r_fail, jbO_some, jk_some, E_r_readCrop_7, if_pos (Or.inl rfl)]
    · rw [if_pos (by rw [q10', hcr]; rfl), jbO_some, jk_some, E_m_line_17, if_neg n10, M_wrong h3, jbO_some, jk_none, E_m_line_21, B_line_49 x4]
  have hn16 : ¬ mg 1 21 = 16 := by rw [q10']; intro q; have := jofinj (b := 16) (by omega) (by omega) q; omega
  rw [if_pos (by rw [q10]; exact jlt_t (b := 16) hf (by omega)), if_neg hn16, jbO_some, jk_some, E_m_line_17, if_pos rfl, honce, jbO_some, jk_some, E_m_line_24, if_pos rfl, E_m_line_37, if_neg (by decide), E_m_line_49, if_pos h3]
  have hT0 : rTok N (jup (jup f 4 (f 4 + 1)) 5 1) (jup mf 2 (mf 2 ||| ((1 : Int32) <<< (1 &&& 31)))) := rTok_c (fun k a b => by rw [jup_ne (by omega), jup_ne (by omega)]) (fun k a b => jup_ne (by omega)) h1
  have hF1 : lF (jq w) f p pa mf mg (jup (jup f 4 (f 4 + 1)) 5 1) p pa (jup mf 2 (mf 2 ||| ((1 : Int32) <<< (1 &&& 31)))) mg := lF.up (fun k hk => by rw [jup_ne (by omega), jup_ne (by omega)]) (fun _ _ => rfl) (fun _ _ => rfl) (fun k hk => jup_ne (by omega)) lH.rf
  obtain ⟨f1, mf1, s1, s2, s3, s4, s5, -, s7, -⟩ := L_step (D := D) (D' := D') (f := jup (jup f 4 (f 4 + 1)) 5 1) (g := g) (n2 := n2) (p := p) (pa := pa) (s := s) (sa := sa) (sw := sw) (rp := .ref (jpl w)) (t := t) (z := z) (cx := cx) (mf := jup mf 2 (mf 2 ||| ((1 : Int32) <<< (1 &&& 31)))) (mg := mg) (mn := mn) (mb := mb) (ml := ml) (t1 := t1) (z1 := z1) hT0 h2
  have m19 : mf1 9 = 0 := by rw [s5 9 (by omega), jup_ne (by omega)]; exact h3
  have h63 : jev D' 160 63 ([some (.ref 79), some (.int 1)], []) [] ((jXt cx (jY mf1 mg mn mb ml t1), z1)) = jbO (K_m_cropLine D' cx mf1 mg mn mb ml t1 z1) (jk D' 160 82 ([some (.ref 79), some (.int 1)], []) []) := by
    rw [E_m_line_63]
    simp +decide only [if_false, if_true]
  rw [s1, jbO_some, jk_none, E_r_readCrop_20, s2, jbO_some, jk_none, h63, E_m_cropLine]
  have hF2 := hF1.tr (s7 _)
  -- with a fault the reference's line ends
  have hbad22 : ∀ (m : Nat → Int32) (c v : Int32), ¬ m 9 = 0 → jev D' 161 22 ([some (.ref 79), some (.int c), none], []) [.int v] ((jXt cx (jY m mg mn mb ml t1), z1)) = some (.inl none, (jXt cx (jY m mg mn mb ml t1), z1)) := by
    intro m c v hm; rw [E_m_cropLine_22, if_neg hm]
  have hbad16 : ∀ (m : Nat → Int32) (c : Int32), ¬ m 9 = 0 → K_m_cropLine_16 D' c none cx m mg mn mb ml t1 z1 = some (.inl none, (jXt cx (jY m mg mn mb ml t1), z1)) := by
    intro m c hm
    rw [E_m_cropLine_16, B_goOn hm, jbO_some, jk_none, E_m_cropLine_18, B_numeral hm, jbO_some, jk_some]
    exact hbad22 m c _ hm
  have hbad2 : ∀ (m : Nat → Int32) (c : Int32), ¬ m 9 = 0 → jev D' 161 2 ([some (.ref 79), none, none], []) [.int c] ((jXt cx (jY m mg mn mb ml t1), z1)) = some (.inl none, (jXt cx (jY m mg mn mb ml t1), z1)) := by
    intro m c hm
    rw [E_m_cropLine_2, if_neg hm]; exact hbad16 m c hm
  have hend : ∀ m : Nat → Int32, ¬ m 9 = 0 → jbO (some (.inl none, (jXt cx (jY m mg mn mb ml t1), z1))) (jk D' 160 82 ([some (.ref 79), some (.int 1)], []) []) = some (.inl none, (jXt cx (jY m mg mn mb ml t1), z1)) := by
    intro m hm; rw [jbO_some, jk_none, E_m_line_82, B_line_149 hm]
  rcases L_cell (D := D) (D' := D') (f := f1) (g := g) (n2 := n2) (p := p) (pa := pa) (s := s) (sa := sa) (sw := sw) (t := t) (z := z) (w := w) (cx := cx) (mf := mf1) (mg := mg) (mn := mn) (mb := mb) (ml := ml) (t1 := t1) (z1 := z1) s3 h2 m19 q1 q2 q1' q2' hW1 hW6 hH1 hH5 with ⟨x, y, f2, mf2, hx, hy, e1, e2, e3, e12, e4, e5, e6, e7, e8⟩ | ⟨f2, mf2, e1, e4, e8, b1, b2, b3⟩ | ⟨x, f2, f3, mf3, e1, e2, e3, e4, e8, b1, b2, b3⟩
  rotate_left
  · right
    refine ⟨f2, p, pa, mf2, mg, ?_, ?_, hF2.tr (e8 _), b1, b2, b3⟩
    · rw [e1, jbO_some, jk_some, E_r_readCrop_28, if_pos rfl]
    · rw [e4, jbO_some, jk_some, hbad2 mf2 0 b1]; exact hend mf2 b1
  · right
    refine ⟨f3, p, pa, mf3, mg, ?_, ?_, hF2.tr (e8 _), b1, b2, b3⟩
    · rw [e1, jbO_some, jk_some, E_r_readCrop_28, if_neg n10, e2, jbO_some, jk_some, E_r_readCrop_33, e3, jbO_some, jk_some, E_r_readCrop_42, if_pos rfl]
    · rw [e4, jbO_some, jk_some, hbad2 mf3 0 b1]; exact hend mf3 b1
  obtain ⟨hcl, hWH⟩ := cell_lt hx hy hW6 hH5
  generalize hcell : y * W + x = c at hcl e4
  have hc30 : c < 30 := by omega
  have m29 : mf2 9 = 0 := by rw [e7 9 (by omega)]; exact m19
  have hF3 := hF2.tr (e8 _)
  have hcc : f2 12 * p (jq w) 1 + Int32.ofNat x = Int32.ofNat c := by rw [e12, q1, jofmul, jofadd, hcell]
  have f23 : f2 3 = f 3 := by rw [e6 3 (by omega), s4 3 (by omega), jup_ne (by omega), jup_ne (by omega)]
  obtain ⟨C1, C2, C3⟩ := hC c hc30
  have hix : (30 : Int32) + Int32.ofNat c = Int32.ofNat (30 + c) := jofadd (a := 30)
  rw [e1, jbO_some, jk_some, E_r_readCrop_28, if_neg n10, e2, jbO_some, jk_some, E_r_readCrop_33, e3, jbO_some, jk_some, E_r_readCrop_42, if_neg n10, hcc, e4, jbO_some, jk_some, E_m_cropLine_2, if_pos m29, hix, if_neg (jout_n (by omega) (by omega)), jclamp (show 30 + c < 2147483648 by omega)]
  by_cases hset : 0 < mg 2 (30 + c)
  · right
    obtain ⟨x3, x4, x5, x6⟩ := lfail (v := jq w) (k := 3) (p := p) (pa := pa) (mg := mg) e5 (by decide)
    have hbt : ¬ (((f2 3 >>> (Int32.ofNat c &&& 31)) &&& 1) = 0) := by
      rw [jbit0 (by omega), f23, C1, decide_eq_true hset]; decide
    refine ⟨_, p, pa, _, mg, ?_, ?_, hF3.tr x3, x4, x5, x6⟩
    · rw [if_neg hbt, E_r_fail, jbO_some, jk_some, E_r_readCrop_65, if_pos (Or.inl rfl)]
    · rw [if_pos hset, M_wrong m29, jbO_some, jk_none, F_m_cropLine_16, hbad16 _ _ x4]; exact hend _ x4
  have hbt : ((f2 3 >>> (Int32.ofNat c &&& 31)) &&& 1) = 0 := by
    rw [jbit0 (by omega), f23, C1, decide_eq_false hset]
  rw [if_pos hbt, if_neg hset, E_m_cropLine_16, E_m_goOn, if_pos m29]
  have hT4 : rTok N (jup f2 3 (f2 3 ||| ((1 : Int32) <<< (Int32.ofNat c &&& 31)))) mf2 := rTok_c (fun k a b => jup_ne (by omega)) (fun _ _ _ => rfl) e5
  have hF4 : lF (jq w) f2 p pa mf2 mg (jup f2 3 (f2 3 ||| ((1 : Int32) <<< (Int32.ofNat c &&& 31)))) p pa mf2 mg := lF.up (fun k hk => jup_ne (by omega)) (fun _ _ => rfl) (fun _ _ => rfl) (fun _ _ => rfl) lH.rf
  obtain ⟨f4, mf4, r1, r2, r3, r4, r5, -, r7, -⟩ := L_step (D := D) (D' := D') (f := jup f2 3 (f2 3 ||| ((1 : Int32) <<< (Int32.ofNat c &&& 31)))) (g := g) (n2 := n2) (p := p) (pa := pa) (s := s) (sa := sa) (sw := sw) (rp := .ref (jpl w)) (t := t) (z := z) (cx := cx) (mf := mf2) (mg := mg) (mn := mn) (mb := mb) (ml := ml) (t1 := t1) (z1 := z1) hT4 h2
  have hF5 := (hF3.tr hF4).tr (r7 _)
  have m49 : mf4 9 = 0 := by rw [r5 9 (by omega)]; exact m29
  rw [r1, jbO_some, jk_none, E_r_readCrop_77, r2, jbO_some, jk_none, E_m_goOn_5, jbO_some, jk_none, E_m_cropLine_18]
  rcases L_num (D := D) (D' := D') (a := 0) (b0 := 99) (f := f4) (g := g) (n2 := n2) (p := p) (pa := pa) (s := s) (sa := sa) (sw := sw) (t := t) (z := z) (w := w) (cx := cx) (mf := mf4) (mg := mg) (mn := mn) (mb := mb) (ml := ml) (t1 := t1) (z1 := z1) r3 h2 m49 (by omega) (by omega) with ⟨v, f5, mf5, hv1, hv2, i1, i2, i3, i4, i5, i6, i7⟩ | ⟨f5, mf5, i1, i3, i7, b1, b2, b3⟩
  rotate_left
  · right
    have i1' : K_r_isNumber D w 0 99 f4 g n2 p pa s sa sw t z = _ := i1
    have i3' : K_m_numeral D' 0 99 cx mf4 mg mn mb ml t1 z1 = _ := i3
    refine ⟨f5, p, pa, mf5, mg, ?_, ?_, hF5.tr (i7 _), b1, b2, b3⟩
    · rw [i1', jbO_some, jk_some, E_r_readCrop_81, if_pos rfl]
    · rw [i3', jbO_some, jk_some, hbad22 mf5 _ _ b1]; exact hend mf5 b1
  left
  have i1' : K_r_isNumber D w 0 99 f4 g n2 p pa s sa sw t z = _ := i1
  have i3' : K_m_numeral D' 0 99 cx mf4 mg mn mb ml t1 z1 = _ := i3
  have m59 : mf5 9 = 0 := by rw [i6 9 (by omega)]; exact m49
  have f2k : ∀ k, k < 10 ∨ 13 < k → f2 k = (jup (jup f 4 (f 4 + 1)) 5 1) k := fun k hk => by rw [e6 k hk, s4 k hk]
  have fk : ∀ k, k < 10 ∨ 13 < k → f5 k = (jup f2 3 (f2 3 ||| ((1 : Int32) <<< (Int32.ofNat c &&& 31)))) k := fun k hk => by rw [i5 k hk, r4 k hk]
  have mk : ∀ k, k < 4 ∨ 8 < k → mf5 k = (jup mf 2 (mf 2 ||| ((1 : Int32) <<< (1 &&& 31)))) k := fun k hk => by rw [i6 k hk, r5 k hk, e7 k hk, s5 k hk]
  have a1 := lH.up (mg := mg) (k := 2) (i := 30 + c) (v := Int32.ofNat (v + 1)) (Or.inr (Or.inl ⟨rfl, by omega⟩))
  have a2 := lH.up (mg := jup mg 2 (jup (mg 2) (30 + c) (Int32.ofNat (v + 1)))) (k := 1) (i := 21) (v := Int32.ofNat (cr + 1)) (Or.inl ⟨rfl, by omega⟩)
  rw [jup_ne (show (1 : Nat) ≠ 2 by omega)] at a2
  refine ⟨f5, p, jup pa (jq w) (jup (pa (jq w)) 0 (jup (pa (jq w) 0) c (Int32.ofNat v))), mf5, jup (jup mg 2 (jup (mg 2) (30 + c) (Int32.ofNat (v + 1)))) 1 (jup (mg 1) 21 (Int32.ofNat (cr + 1))), some (.int 1), ?_, ?_, (hF5.tr (i7 _)).tr (lF.up (fun _ _ => rfl) (fun _ _ => rfl) (fun j hj => jup_ne hj) (fun _ _ => rfl) (a1.tr a2)), ?_⟩
  · rw [i1', jbO_some, jk_some, E_r_readCrop_81, if_neg n10, i2, jbO_some, jk_some, E_r_readCrop_90, if_neg (jout_n (by omega) (by omega)), jclamp (show c < 2147483648 by omega)]
  · have hfr5 : K_m_fresher D' 10 cx mf5 (jup mg 2 (jup (mg 2) (30 + c) (Int32.ofNat (v + 1)))) mn mb ml t1 z1 = some (.inl (some (.int (Int32.ofNat cr))), (jXt cx (jY mf5 (jup mg 2 (jup (mg 2) (30 + c) (Int32.ofNat (v + 1)))) mn mb ml t1), z1)) := by
      have := M_fresher (D := D') (x := 10) (cx := cx) (f := mf5) (g := jup mg 2 (jup (mg 2) (30 + c) (Int32.ofNat (v + 1)))) (n := mn) (b := mb) (l := ml) (t := t1) (z := z1) (by omega)
      rw [jup_ne (show (1 : Nat) ≠ 2 by omega), show (11 + 10 : Nat) = 21 from rfl, q10'] at this
      exact this
    have r10 : ∀ u, K_m_reads D' 10 u cx mf5 (jup mg 2 (jup (mg 2) (30 + c) (Int32.ofNat (v + 1)))) mn mb ml t1 z1 = _ := fun u => M_reads (x := 10) (by omega)
    rw [i3', jbO_some, jk_some, E_m_cropLine_22, if_pos m59, hix, jsucc, E_m_cropLine_35, if_neg (jout_n (by omega) (by omega)), jclamp (show 30 + c < 2147483648 by omega), hfr5, jbO_some, jk_some, E_m_cropLine_41, jsucc, r10, jbO_some, jk_none, E_m_cropLine_44, jbO_some, jk_none, E_m_line_82, jup_ne (show (1 : Nat) ≠ 2 by omega)]
  · rw [jup_same]
    refine ⟨W, H, Sc, fl, Wn, kn, cr + 1, i4, rTp_c (by rw [jup_ne (by omega), jup_ne (by omega)]) h2, m59, by rw [mk 13 (by omega), jup_ne (by omega)]; exact h13, ?_, ?_, ?_, ?_, ?_, ?_⟩
    · exact told_up3 (c := 1) hT (by decide) (by rw [fk 2 (by omega), jup_ne (by omega), f2k 2 (by omega), jup_ne (by omega), jup_ne (by omega)]) (by rw [fk 5 (by omega), jup_ne (by omega), f2k 5 (by omega), jup_same]) (by rw [mk 2 (by omega), jup_same]; rfl)
    · unfold rNum
      rw [jup_same, mk 3 (by omega), mk 14 (by omega), fk 4 (by omega), jup_ne (show (4 : Nat) ≠ 3 by omega), f2k 4 (by omega)]
      simp (disch := omega) only [jup_ne, jup_same]
      exact ⟨q0, ⟨q1, q1', hW1, hW6⟩, ⟨q2, q2', hH1, hH5⟩, q3, q4, q6, q7, q5, q8, q9, ⟨by rw [q10, jsucc], trivial, by omega⟩⟩
    · intro i hi
      rw [fk 3 (by omega), jup_same, b_or, b_one c (by omega) (by omega), f23, jup_ne (show (2 : Nat) ≠ 1 by omega), jup_same, jup_same]
      by_cases hic : i = c
      · subst hic
        rw [jup_same, jup_same]
        have hpos : (0 : Int32) < Int32.ofNat (v + 1) := jlt_t (a := 0) (by omega) (by omega)
        rw [if_pos hpos, decide_eq_true hpos, decide_eq_true rfl, Bool.or_true]
        exact ⟨rfl, by rw [← jsucc]; simp, v, by omega, rfl⟩
      · rw [jup_ne (by omega), jup_ne hic, decide_eq_false hic, Bool.or_false]
        exact hC i hi
    · refine ⟨fun i hi => ?_, fun _ => by rw [fk 5 (by omega), jup_ne (by omega), f2k 5 (by omega), jup_same]; decide⟩
      simp (disch := omega) only [jup_ne]
      exact hS.1 i hi
    · intro d hd; simp (disch := omega) only [jup_ne]; exact hW d hd
    · intro r hr
      refine rLw_c (hL r hr) (Nat.le_refl kn) rfl (by rw [jup_ne (by omega)]) (by rw [jup_ne (by omega)]) (by rw [jup_ne (by omega), jup_ne (by omega)]) (by rw [jup_ne (by omega), jup_ne (by omega)]) (fun k _ => ⟨by rw [jup_ne (by omega), jup_ne (by omega)], by rw [jup_ne (by omega), jup_ne (by omega)]⟩) (fun q => ?_)
      rw [fk 2 (by omega), jup_ne (by omega), f2k 2 (by omega), jup_ne (by omega), jup_ne (by omega)] at q; exact q
