-- READING LINES: the field
theorem jand3 {x : Int32} : ((x >>> (1 &&& 31 : Int32)) &&& 3 = 0) ↔ (bt x 1 = false ∧ bt x 2 = false) := by
  have h3 : ∀ i, i < 32 → bt 3 i = decide (i < 2) := by decide +kernel
  have hb : ∀ i, i < 31 → bt ((x >>> (1 &&& 31 : Int32)) &&& 3) i = (bt x (1 + i) && decide (i < 2)) := by
    intro i hi
    have := b_sshr 1 (by omega) x (i := i) (by omega)
    rw [if_pos (by omega)] at this
    rw [b_and, h3 i (by omega)]
    exact congrArg (fun q => q && decide (i < 2)) this
  constructor
  · intro h
    have a0 := hb 0 (by omega); have a1 := hb 1 (by omega)
    rw [h, b_0] at a0 a1
    simp at a0 a1
    exact ⟨a0.symm ▸ rfl, a1.symm ▸ rfl⟩
  · rintro ⟨h1, h2⟩
    apply b_ext
    intro i hi
    rw [b_0, b_and, h3 i hi]
    by_cases hi2 : i < 2
    · have := hb i (by omega)
      rw [b_and, h3 i hi] at this
      rw [this]
      rcases (show i = 0 ∨ i = 1 by omega) with rfl | rfl
      · rw [h1]; rfl
      · rw [h2]; rfl
    · simp [hi2]
theorem rTok_c {N : Nat} {f f' mf mf' : Nat → Int32} (hf : ∀ k, 9 ≤ k → k ≤ 13 → f' k = f k) (hm : ∀ k, 4 ≤ k → k ≤ 8 → mf' k = mf k) (h : rTok N f mf) : rTok N f' mf' := by
  unfold rTok rPos at h ⊢
  rw [hf 9 (by omega) (by omega), hf 10 (by omega) (by omega), hf 11 (by omega) (by omega), hf 12 (by omega) (by omega), hf 13 (by omega) (by omega), hm 4 (by omega) (by omega), hm 5 (by omega) (by omega), hm 6 (by omega) (by omega), hm 7 (by omega) (by omega), hm 8 (by omega) (by omega)]
  exact h
theorem rTp_c {N : Nat} {g mg mg' : Nat → Nat → Int32} (hm : mg' 0 = mg 0) (h : rTp N g mg) : rTp N g mg' := by
  unfold rTp at h ⊢; rw [hm]; exact h
theorem jtolds : ∀ x ∈ ([(0, 0), (4, 4), (5, 5), (6, 7), (7, 8), (9, 16), (10, 17), (11, 18)] : List (Nat × Nat)), x.1 < 32 ∧ x.2 < 32 ∧ ¬ x.2 = 1 ∧ ¬ x.2 = 2 ∧ ¬ x.2 = 3 ∧ ¬ x.2 = 6 ∧ ¬ x.2 = 9 ∧ ∀ y ∈ ([(0, 0), (4, 4), (5, 5), (6, 7), (7, 8), (9, 16), (10, 17), (11, 18)] : List (Nat × Nat)), (x.1 = y.1 ↔ x.2 = y.2) := by decide
theorem told_up {a c : Nat} {f f' mf mf' : Nat → Int32} (h : rTold f mf) (hac : (a, c) ∈ ([(0, 0), (4, 4), (5, 5), (6, 7), (7, 8), (9, 16), (10, 17), (11, 18)] : List (Nat × Nat))) (h2 : f' 2 = f 2 ||| (1 <<< (Int32.ofNat a &&& 31))) (h5 : f' 5 = f 5) (m2 : mf' 2 = mf 2 ||| (1 <<< (Int32.ofNat c &&& 31))) : rTold f' mf' := by
  obtain ⟨ha, hc, c1, c2, -⟩ := jtolds _ hac
  refine ⟨fun x hx => ?_, ?_⟩
  · obtain ⟨b1, b2, -, -, -, -, -, b3⟩ := jtolds x hx
    have := b3 _ hac
    rw [h2, m2, b_or, b_or, b_one a ha b1, b_one c hc b2, h.1 x hx]
    by_cases q : x.1 = a
    · rw [decide_eq_true q, decide_eq_true (this.mp q)]
    · rw [decide_eq_false q, decide_eq_false (fun r => q (this.mpr r))]
  · rw [h5, m2, b_or, b_or, b_one c hc (by omega), b_one c hc (by omega), decide_eq_false (fun q => c1 q.symm), decide_eq_false (fun q => c2 q.symm), Bool.or_false, Bool.or_false]
    exact h.2
theorem told_up2 {c : Nat} {f f' mf mf' : Nat → Int32} (h : rTold f mf) (hc : c = 3 ∨ c = 6 ∨ c = 9) (h2 : f' 2 = f 2) (h5 : f' 5 = f 5) (m2 : mf' 2 = mf 2 ||| (1 <<< (Int32.ofNat c &&& 31))) : rTold f' mf' := by
  refine ⟨fun x hx => ?_, ?_⟩
  · obtain ⟨b1, b2, b3, b4, b5, b6, b7, -⟩ := jtolds x hx
    rw [h2, m2, b_or, b_one c (by omega) b2, h.1 x hx, decide_eq_false (by omega), Bool.or_false]
  · rw [h5, m2, b_or, b_or, b_one c (by omega) (by omega), b_one c (by omega) (by omega), decide_eq_false (by omega), decide_eq_false (by omega), Bool.or_false, Bool.or_false]
    exact h.2
theorem told_up3 {c : Nat} {f f' mf mf' : Nat → Int32} (h : rTold f mf) (hc : c = 1 ∨ c = 2) (h2 : f' 2 = f 2) (h5 : f' 5 = 1) (m2 : mf' 2 = mf 2 ||| (1 <<< (Int32.ofNat c &&& 31))) : rTold f' mf' := by
  refine ⟨fun x hx => ?_, ?_⟩
  · obtain ⟨b1, b2, b3, b4, b5, b6, b7, -⟩ := jtolds x hx
    rw [h2, m2, b_or, b_one c (by omega) b2, h.1 x hx, decide_eq_false (by omega), Bool.or_false]
  · rw [h5, m2]
    constructor
    · intro q; exact absurd q (by decide)
    · rintro ⟨q1, q2⟩
      rw [b_or, b_one c (by omega) (by omega)] at q1 q2
      rcases hc with rfl | rfl
      · simp at q1
      · simp at q2
theorem rLw_c {kn kn' r : Nat} {f f' q q' : Nat → Int32} {qa qa' mg mg' : Nat → Nat → Int32} (h : rLw kn r f q qa mg) (hkn : kn ≤ kn') (hq : q' (10 + r) = q (10 + r)) (h8 : qa' (8 + 2 * r) = qa (8 + 2 * r)) (h9 : qa' (9 + 2 * r) = qa (9 + 2 * r)) (m10 : mg' 10 (3 + r) = mg 10 (3 + r)) (m11 : mg' 11 (3 + r) = mg 11 (3 + r)) (m12 : ∀ k, k < kn → mg' 12 (64 + k) = mg 12 (64 + k) ∧ mg' 13 (64 + k) = mg 13 (64 + k)) (hb : bt (f' 2) (9 + r) = false → bt (f 2) (9 + r) = false) : rLw kn' r f' q' qa' mg' := by
  obtain ⟨a, n, b1, b2, b3, b4, b5, b6, b7⟩ := h
  refine ⟨a, n, hq.trans b1, m10.trans b2, m11.trans b3, by omega, by rw [h8, h9]; exact b5, fun k hk => ?_, fun q => b7 (hb q)⟩
  rw [h8, h9, (m12 (a + k) (by omega)).1, (m12 (a + k) (by omega)).2]
  exact b6 k hk
theorem M_reads {D x : Nat} {v : Int32} {cx : jCX} {f : Nat → Int32} {g : Nat → Nat → Int32} {n : Nat → Nat → Int64} {b : Nat → Nat → Int32} {l : Nat → Int64} {t : List jE} {z : Nat × Nat × Nat × (Nat → Int32)} (hx : x < 11) : K_m_reads D (Int32.ofNat x) v cx f g n b l t z = some (.inl none, (jXt cx (jY f (jup g 1 (jup (g 1) (11 + x) v)) n b l t), z)) := by
  have hi : (11 : Int32) + Int32.ofNat x = Int32.ofNat (11 + x) := jofadd (a := 11)
  rw [E_m_reads, hi, E_m_reads_6, if_neg (jout_n (by omega) (by omega)), jclamp (show 11 + x < 2147483648 by omega)]
theorem M_fresher {D x : Nat} {cx : jCX} {f : Nat → Int32} {g : Nat → Nat → Int32} {n : Nat → Nat → Int64} {b : Nat → Nat → Int32} {l : Nat → Int64} {t : List jE} {z : Nat × Nat × Nat × (Nat → Int32)} (hx : x < 11) : K_m_fresher D (Int32.ofNat x) cx f g n b l t z = some (.inl (some (.int (g 1 (11 + x)))), (jXt cx (jY f g n b l t), z)) := by
  have hi : (11 : Int32) + Int32.ofNat x = Int32.ofNat (11 + x) := jofadd (a := 11)
  rw [E_m_fresher, hi, if_neg (jout_n (by omega) (by omega)), jclamp (show 11 + x < 2147483648 by omega)]
/-- where the reference ends with a fault in a line -/
theorem B_line_149 {D : Nat} {d : Option Value} {cx : jCX} {f : Nat → Int32} {g : Nat → Nat → Int32} {n : Nat → Nat → Int64} {b : Nat → Nat → Int32} {l : Nat → Int64} {t : List jE} {z : Nat × Nat × Nat × (Nat → Int32)} (h : ¬ f 9 = 0) : K_m_line_149 D d cx f g n b l t z = some (.inl none, (jXt cx (jY f g n b l t), z)) := by
  rw [E_m_line_149, if_neg h]
theorem B_line_49 {D : Nat} {x : Int32} {cx : jCX} {f : Nat → Int32} {g : Nat → Nat → Int32} {n : Nat → Nat → Int64} {b : Nat → Nat → Int32} {l : Nat → Int64} {t : List jE} {z : Nat × Nat × Nat × (Nat → Int32)} (h : ¬ f 9 = 0) : K_m_line_49 D x cx f g n b l t z = some (.inl none, (jXt cx (jY f g n b l t), z)) := by
  rw [E_m_line_49, if_neg h]
theorem B_fresher {D x : Nat} {cx : jCX} {f : Nat → Int32} {g : Nat → Nat → Int32} {n : Nat → Nat → Int64} {b : Nat → Nat → Int32} {l : Nat → Int64} {t : List jE} {z : Nat × Nat × Nat × (Nat → Int32)} (hx : x < 11) : K_m_fresher D (Int32.ofNat x) cx f g n b l t z = some (.inl (some (.int (g 1 (11 + x)))), (jXt cx (jY f g n b l t), z)) := M_fresher hx
theorem L_field {D D' N : Nat} {f : Nat → Int32} {g : Nat → Nat → Int32} {n2 : Nat → Nat → Int64} {p : Nat → Nat → Int32} {pa : Nat → Nat → Nat → Int32} {s : Nat → Nat → Int32} {sa : Nat → Nat → Nat → Int32} {sw : Bool} {t : List jE} {z : Nat × Nat × Nat × (Nat → Int32)} {w : Bool} {cx : jCX} {mf : Nat → Int32} {mg : Nat → Nat → Int32} {mn : Nat → Nat → Int64} {mb : Nat → Nat → Int32} {ml : Nat → Int64} {t1 : List jE} {z1 : Nat × Nat × Nat × (Nat → Int32)} (h : rLn N g f (p (jq w)) (pa (jq w)) mf mg) (h7 : mf 7 = 0) (h8 : mf 8 = 0) : ((∃ f' p' pa' mf' mg' d', K_r_readField D w f g n2 p pa s sa sw t z = some (.inl (some (.int 1)), (jX f' g n2 p' pa' s sa sw (.ref (jpl w)) t, z)) ∧ K_m_line D' cx mf mg mn mb ml t1 z1 = K_m_line_149 D' d' cx mf' mg' mn mb ml t1 z1 ∧ lF (jq w) f p pa mf mg f' p' pa' mf' mg' ∧ rLn N g f' (p' (jq w)) (pa' (jq w)) mf' mg') ∨ (∃ f' p' pa' mf' mg', K_r_readField D w f g n2 p pa s sa sw t z = some (.inl (some (.int 0)), (jX f' g n2 p' pa' s sa sw (.ref (jpl w)) t, z)) ∧ K_m_line D' cx mf mg mn mb ml t1 z1 = some (.inl none, (jXt cx (jY mf' mg' mn mb ml t1), z1)) ∧ lF (jq w) f p pa mf mg f' p' pa' mf' mg' ∧ ¬ mf' 9 = 0 ∧ f' 7 = mf' 9 ∧ f' 8 = mf' 10)) := by
  have n10 : ¬ (1 : Int32) = 0 := by decide
  obtain ⟨W, H, Sc, fl, Wn, kn, cr, h1, h2, h3, h13, hT, hN, hC, hS, hW, hL⟩ := id h
  have hfull : K_m_isFull D' 0 cx mf mg mn mb ml t1 z1 = some (.inl (some (.int 0)), (jXt cx (jY mf mg mn mb ml t1), z1)) := by
    simp +decide only [E_m_isFull, E_m_isFull_8, E_m_isFull_16, E_m_isFull_24, if_false]
  have honce : K_m_isOnce D' 0 cx mf mg mn mb ml t1 z1 = some (.inl (some (.int 1)), (jXt cx (jY mf mg mn mb ml t1), z1)) := by rw [E_m_isOnce, if_pos rfl]
  have hline : K_m_line D' cx mf mg mn mb ml t1 z1 = if (((mf 2) >>> (0 &&& 31)) &&& 1) = 1 then (jbO (K_m_wrong D' 3 cx mf mg mn mb ml t1 z1) (jk D' 160 36 ([some (.ref 79), some (.int 0)], []) [])) else (K_m_line_37 D' 0 cx mf mg mn mb ml t1 z1) := by
    rw [E_m_line, if_pos h7, h8, if_neg (by decide), hfull, jbO_some, jk_some, E_m_line_17, if_pos rfl, honce, jbO_some, jk_some, E_m_line_24, if_neg n10]
  have hb0 : bt (f 2) 0 = bt (mf 2) 0 := hT.1 (0, 0) (by decide)
  have hc0 : (((f 2) >>> (0 &&& 31 : Int32)) &&& 1 = 0) = (bt (f 2) 0 = false) := jbit0 (c := 0) (by omega)
  have hm0 : (((mf 2) >>> (0 &&& 31 : Int32)) &&& 1 = 1) = (bt (mf 2) 0 = true) := jbit10 (c := 0) (by omega)
  rw [hline, E_r_readField, E_r_isFirst]
  by_cases ht : bt (mf 2) 0 = true
  · right
    obtain ⟨x3, x4, x5, x6⟩ := lfail (v := jq w) (k := 3) (p := p) (pa := pa) (mg := mg) h1 (by decide)
    refine ⟨_, p, pa, _, mg, ?_, ?_, x3, x4, x5, x6⟩
    · rw [if_neg (by rw [hc0, hb0, ht]; decide), E_r_fail, jbO_some, jk_some, E_r_isFirst_10, if_pos (Or.inl rfl), jbO_some, jk_some, E_r_readField_3, if_pos rfl]
    · rw [if_pos (by rw [hm0]; exact ht), M_wrong h3, jbO_some, jk_none, E_m_line_36, B_line_49 x4]
  have ht' : bt (mf 2) 0 = false := by simpa using ht
  rw [if_pos (show ((f 2) >>> (0 &&& 31 : Int32)) &&& 1 = 0 by rw [hc0, hb0]; exact ht'), jbO_some, jk_some, E_r_readField_3, if_neg n10, if_neg (show ¬ ((mf 2) >>> (0 &&& 31 : Int32)) &&& 1 = 1 by rw [hm0]; exact ht), E_m_line_37, if_pos rfl, show (jup f 2 (f 2 ||| ((1 : Int32) <<< (0 &&& 31)))) 5 = f 5 by rw [jup_ne (by omega)]]
  have hF0 : lF (jq w) f p pa mf mg (jup f 2 (f 2 ||| ((1 : Int32) <<< (0 &&& 31)))) p pa mf mg := lF.up (fun k hk => jup_ne (by omega)) (fun _ _ => rfl) (fun _ _ => rfl) (fun _ _ => rfl) lH.rf
  by_cases h5 : f 5 = 0
  rotate_left
  · right
    have hT0 : rTok N (jup f 2 (f 2 ||| ((1 : Int32) <<< (0 &&& 31)))) mf := rTok_c (fun k a b => jup_ne (by omega)) (fun _ _ _ => rfl) h1
    obtain ⟨x3, x4, x5, x6⟩ := lfail (v := jq w) (k := 4) (p := p) (pa := pa) (mg := mg) hT0 (by decide)
    refine ⟨_, p, pa, _, mg, ?_, ?_, hF0.tr x3, x4, x5, x6⟩
    · rw [if_neg h5, E_r_fail, jbO_some, jk_some, E_r_readField_12, if_pos (Or.inl rfl)]
    · rw [if_neg (fun q => h5 (hT.2.mpr (jand3.mp q))), M_wrong h3, jbO_some, jk_none, F_m_line_49, B_line_49 x4]
  rw [if_pos h5, if_pos (jand3.mpr (hT.2.mp h5)), E_m_line_49, if_pos h3]
  have hT0 : rTok N (jup f 2 (f 2 ||| ((1 : Int32) <<< (0 &&& 31)))) (jup mf 2 (mf 2 ||| ((1 : Int32) <<< (0 &&& 31)))) := rTok_c (fun k a b => jup_ne (by omega)) (fun k a b => jup_ne (by omega)) h1
  have hF1 : lF (jq w) f p pa mf mg (jup f 2 (f 2 ||| ((1 : Int32) <<< (0 &&& 31)))) p pa (jup mf 2 (mf 2 ||| ((1 : Int32) <<< (0 &&& 31)))) mg := lF.up (fun k hk => jup_ne (by omega)) (fun _ _ => rfl) (fun _ _ => rfl) (fun k hk => jup_ne (by omega)) lH.rf
  obtain ⟨f1, mf1, s1, s2, s3, s4, s5, -, s7, -⟩ := L_step (D := D) (D' := D') (f := jup f 2 (f 2 ||| ((1 : Int32) <<< (0 &&& 31)))) (g := g) (n2 := n2) (p := p) (pa := pa) (s := s) (sa := sa) (sw := sw) (rp := .ref (jpl w)) (t := t) (z := z) (cx := cx) (mf := jup mf 2 (mf 2 ||| ((1 : Int32) <<< (0 &&& 31)))) (mg := mg) (mn := mn) (mb := mb) (ml := ml) (t1 := t1) (z1 := z1) hT0 h2
  have m19 : mf1 9 = 0 := by rw [s5 9 (by omega), jup_ne (by omega)]; exact h3
  rw [s1, jbO_some, jk_none, E_r_readField_16, s2, jbO_some, jk_none, E_m_line_63, if_pos rfl]
  have hN1 := L_num (D := D) (D' := D') (a := 1) (b0 := 6) (f := f1) (g := g) (n2 := n2) (p := p) (pa := pa) (s := s) (sa := sa) (sw := sw) (t := t) (z := z) (w := w) (cx := cx) (mf := mf1) (mg := mg) (mn := mn) (mb := mb) (ml := ml) (t1 := t1) (z1 := z1) s3 h2 m19 (by omega) (by omega)
  rcases hN1 with ⟨x, f2, mf2, hx1, hx2, e1, e2, e3, e4, e5, e6, e7⟩ | ⟨f2, mf2, e1, e3, e7, b1, b2, b3⟩
  rotate_left
  · right
    have e1' : K_r_isNumber D w 1 6 f1 g n2 p pa s sa sw t z = _ := e1
    have e3' : K_m_numeral D' 1 6 cx mf1 mg mn mb ml t1 z1 = _ := e3
    have hB := lH.up (mg := mg) (k := 1) (i := 11 + 0) (v := Int32.ofNat 1) (Or.inl ⟨rfl, by omega⟩)
    have hB2 := lH.up (mg := jup mg 1 (jup (mg 1) (11 + 0) (Int32.ofNat 1))) (k := 1) (i := 11 + 1) (v := 1) (Or.inl ⟨rfl, by omega⟩)
    refine ⟨f2, p, pa, mf2, _, ?_, ?_, ((hF1.tr (s7 _)).tr (e7 _)).tr (lF.up (fun _ _ => rfl) (fun _ _ => rfl) (fun _ _ => rfl) (fun _ _ => rfl) (hB.tr hB2)), b1, b2, b3⟩
    · rw [e1', jbO_some, jk_some, E_r_readField_20, if_pos rfl]
    · have r0 : ∀ v, K_m_reads D' 0 v cx mf2 mg mn mb ml t1 z1 = _ := fun v => M_reads (x := 0) (by omega)
      have r1 : ∀ v, K_m_reads D' 1 v cx mf2 (jup mg 1 (jup (mg 1) (11 + 0) (Int32.ofNat 1))) mn mb ml t1 z1 = _ := fun v => M_reads (x := 1) (by omega)
      rw [e3', jbO_some, jk_some, E_m_line_71, r0, jbO_some, jk_none, E_m_line_72, B_numeral b1, jbO_some, jk_some, E_m_line_78, r1, jbO_some, jk_none, E_m_line_79, B_line_149 b1]
  have e1' : K_r_isNumber D w 1 6 f1 g n2 p pa s sa sw t z = _ := e1
  have e3' : K_m_numeral D' 1 6 cx mf1 mg mn mb ml t1 z1 = _ := e3
  have r0 : ∀ v, K_m_reads D' 0 v cx mf2 mg mn mb ml t1 z1 = _ := fun v => M_reads (x := 0) (by omega)
  rw [e1', jbO_some, jk_some, E_r_readField_20, if_neg n10, e2, jbO_some, jk_some, E_r_readField_27, e3', jbO_some, jk_some, E_m_line_71, r0, jbO_some, jk_none, E_m_line_72]
  have m29 : mf2 9 = 0 := by rw [e6 9 (by omega)]; exact m19
  have hN2 := L_num (D := D) (D' := D') (a := 1) (b0 := 5) (f := f2) (g := g) (n2 := n2) (p := jup p (jq w) (jup (p (jq w)) 1 (Int32.ofNat x))) (pa := pa) (s := s) (sa := sa) (sw := sw) (t := t) (z := z) (w := w) (cx := cx) (mf := mf2) (mg := jup mg 1 (jup (mg 1) (11 + 0) (Int32.ofNat x))) (mn := mn) (mb := mb) (ml := ml) (t1 := t1) (z1 := z1) e4 (rTp_c (jup_ne (by omega)) h2) m29 (by omega) (by omega)
  have hB := lH.up (mg := mg) (k := 1) (i := 11 + 0) (v := Int32.ofNat x) (Or.inl ⟨rfl, by omega⟩)
  have hF2 : lF (jq w) f p pa mf mg f2 (jup p (jq w) (jup (p (jq w)) 1 (Int32.ofNat x))) pa mf2 (jup mg 1 (jup (mg 1) (11 + 0) (Int32.ofNat x))) :=
    ((hF1.tr (s7 _)).tr (e7 _)).tr (lF.up (fun _ _ => rfl) (fun j hj => jup_ne hj) (fun _ _ => rfl) (fun _ _ => rfl) hB)
  rcases hN2 with ⟨y, f3, mf3, hy1, hy2, c1, c2, c3, c4, c5, c6, c7⟩ | ⟨f3, mf3, c1, c3, c7, b1, b2, b3⟩
  rotate_left
  · right
    have c1' : K_r_isNumber D w 1 5 f2 g n2 (jup p (jq w) (jup (p (jq w)) 1 (Int32.ofNat x))) pa s sa sw t z = _ := c1
    have c3' : K_m_numeral D' 1 5 cx mf2 (jup mg 1 (jup (mg 1) (11 + 0) (Int32.ofNat x))) mn mb ml t1 z1 = _ := c3
    have r1 : ∀ v, K_m_reads D' 1 v cx mf3 (jup mg 1 (jup (mg 1) (11 + 0) (Int32.ofNat x))) mn mb ml t1 z1 = _ := fun v => M_reads (x := 1) (by omega)
    have hB2 := lH.up (mg := jup mg 1 (jup (mg 1) (11 + 0) (Int32.ofNat x))) (k := 1) (i := 11 + 1) (v := Int32.ofNat 1) (Or.inl ⟨rfl, by omega⟩)
    refine ⟨f3, _, pa, mf3, _, ?_, ?_, (hF2.tr (c7 _)).tr (lF.up (fun _ _ => rfl) (fun _ _ => rfl) (fun _ _ => rfl) (fun _ _ => rfl) hB2), b1, b2, b3⟩
    · rw [c1', jbO_some, jk_some, E_r_readField_32, if_pos rfl]
    · rw [c3', jbO_some, jk_some, E_m_line_78, r1, jbO_some, jk_none, E_m_line_79, B_line_149 b1]
  left
  have c1' : K_r_isNumber D w 1 5 f2 g n2 (jup p (jq w) (jup (p (jq w)) 1 (Int32.ofNat x))) pa s sa sw t z = _ := c1
  have c3' : K_m_numeral D' 1 5 cx mf2 (jup mg 1 (jup (mg 1) (11 + 0) (Int32.ofNat x))) mn mb ml t1 z1 = _ := c3
  have r1 : ∀ v, K_m_reads D' 1 v cx mf3 (jup mg 1 (jup (mg 1) (11 + 0) (Int32.ofNat x))) mn mb ml t1 z1 = _ := fun v => M_reads (x := 1) (by omega)
  have hB2 := lH.up (mg := jup mg 1 (jup (mg 1) (11 + 0) (Int32.ofNat x))) (k := 1) (i := 11 + 1) (v := Int32.ofNat y) (Or.inl ⟨rfl, by omega⟩)
  have fk : ∀ k, k < 10 ∨ 13 < k → f3 k = (jup f 2 (f 2 ||| ((1 : Int32) <<< (0 &&& 31)))) k := fun k hk => by rw [c5 k hk, e5 k hk, s4 k hk]
  have mk : ∀ k, k < 4 ∨ 8 < k → mf3 k = (jup mf 2 (mf 2 ||| ((1 : Int32) <<< (0 &&& 31)))) k := fun k hk => by rw [c6 k hk, e6 k hk, s5 k hk]
  have hSc : Sc = 0 := by
    by_cases q : 0 < Sc
    · exact absurd h5 (hS.2 q)
    · omega
  have m1 : (jup (jup mg 1 (jup (mg 1) (11 + 0) (Int32.ofNat x))) 1 (jup ((jup mg 1 (jup (mg 1) (11 + 0) (Int32.ofNat x))) 1) (11 + 1) (Int32.ofNat y))) = jup mg 1 (jup (jup (mg 1) 11 (Int32.ofNat x)) 12 (Int32.ofNat y)) := by rw [jup_same, jup_jup]
  refine ⟨f3, jup p (jq w) (jup (jup (p (jq w)) 1 (Int32.ofNat x)) 2 (Int32.ofNat y)), pa, mf3, jup mg 1 (jup (jup (mg 1) 11 (Int32.ofNat x)) 12 (Int32.ofNat y)), some (.int 0), ?_, ?_, (hF2.tr (c7 _)).tr (lF.up (fun _ _ => rfl) (fun j hj => by rw [jup_ne hj, jup_ne hj]) (fun _ _ => rfl) (fun _ _ => rfl) (by rw [← m1]; exact hB2)), ?_⟩
  · rw [c1', jbO_some, jk_some, E_r_readField_32, if_neg n10, c2, jbO_some, jk_some, E_r_readField_39, jup_same, jup_jup]
  · rw [c3', jbO_some, jk_some, E_m_line_78, r1, jbO_some, jk_none, E_m_line_79, m1]
  · rw [jup_same]
    obtain ⟨q0, -, -, q3, q4, q6, q7, q5, q8, q9, q10⟩ := hN
    refine ⟨x, y, Sc, fl, Wn, kn, cr, c4, rTp_c (jup_ne (by omega)) h2, by rw [mk 9 (by omega), jup_ne (by omega)]; exact h3, by rw [mk 13 (by omega), jup_ne (by omega)]; exact h13, ?_, ?_, ?_, ?_, ?_, ?_⟩
    · exact told_up (a := 0) (c := 0) hT (by decide) (by rw [fk 2 (by omega), jup_same]; rfl) (by rw [fk 5 (by omega), jup_ne (by omega)]) (by rw [mk 2 (by omega), jup_same]; rfl)
    · unfold rNum
      simp (disch := omega) only [jup_ne, jup_same]
      rw [mk 3 (by omega), mk 14 (by omega), fk 4 (by omega)]
      simp (disch := omega) only [jup_ne]
      exact ⟨q0, ⟨trivial, trivial, hx1, hx2⟩, ⟨trivial, trivial, hy1, hy2⟩, q3, q4, q6, q7, q5, q8, q9, q10⟩
    · intro c hc
      rw [fk 3 (by omega), jup_ne (by omega), jup_ne (by omega)]
      exact hC c hc
    · refine ⟨fun i hi => absurd hi (by omega), fun q => absurd q (by omega)⟩
    · intro d hd; rw [jup_ne (by omega)]; exact hW d hd
    · intro r hr
      refine rLw_c (hL r hr) (Nat.le_refl kn) (by rw [jup_ne (by omega), jup_ne (by omega)]) rfl rfl (by rw [jup_ne (by omega)]) (by rw [jup_ne (by omega)]) (fun k _ => ⟨by rw [jup_ne (by omega)], by rw [jup_ne (by omega)]⟩) (fun q => ?_)
      rw [fk 2 (by omega), jup_same, b_or] at q
      simp at q; exact q.1
