-- READING LINES: a law
theorem wmp_law : ∀ x, x < 22 → ((9 ≤ x ∧ x < 12) ↔ (10 ≤ wmp x ∧ wmp x ≤ 12)) ∧ ((9 ≤ x ∧ x < 12) → wmp x = x + 1) := by decide +kernel
theorem xF.lF {r a0 v : Nat} {f : Nat → Int32} {p : Nat → Nat → Int32} {pa : Nat → Nat → Nat → Int32} {mf : Nat → Int32} {mg : Nat → Nat → Int32} {f' : Nat → Int32} {p' : Nat → Nat → Int32} {pa' : Nat → Nat → Nat → Int32} {mf' : Nat → Int32} {mg' : Nat → Nat → Int32} (h : xF r a0 v f p pa mf mg f' p' pa' mf' mg') : lF v f p pa mf mg f' p' pa' mf' mg' := by
  obtain ⟨a1, a2, -, -, a5, a6, a7, a8, a9, a10⟩ := h
  refine ⟨fun k hk => a1 k (by omega), a2, fun k hk => a5 k (by omega), ⟨fun k hk => a6 k (by omega) (by omega) (by omega), fun i hi => a7 i (by omega), fun i hi => by rw [a6 2 (by omega) (by omega) (by omega)], fun k x y i hi => by rw [a6 k (by omega) (by omega) (by omega)], fun i hi => by rw [a6 9 (by omega) (by omega) (by omega)], fun k hk i hi => by rw [a6 k (by omega) (by omega) (by omega)], fun k hk i hi => ?_⟩, a9, a10⟩
  rcases hk with rfl | rfl
  · exact (a8 i (by omega)).1
  · exact (a8 i (by omega)).2
theorem L_law {D D' N : Nat} {f : Nat → Int32} {g : Nat → Nat → Int32} {n2 : Nat → Nat → Int64} {p : Nat → Nat → Int32} {pa : Nat → Nat → Nat → Int32} {s : Nat → Nat → Int32} {sa : Nat → Nat → Nat → Int32} {sw : Bool} {t : List jE} {z : Nat × Nat × Nat × (Nat → Int32)} {w : Bool} {cx : jCX} {mf : Nat → Int32} {mg : Nat → Nat → Int32} {mn : Nat → Nat → Int64} {mb : Nat → Nat → Int32} {ml : Nat → Int64} {t1 : List jE} {z1 : Nat × Nat × Nat × (Nat → Int32)} (hD : 63 ≤ D) (hD' : 119 ≤ D') (h : rLn N g f (p (jq w)) (pa (jq w)) mf mg) (h7 : mf 7 = 0) (h8 : mf 8 = 9) : ((∃ f' p' pa' mf' mg' d', K_r_readLaw D w f g n2 p pa s sa sw t z = some (.inl (some (.int 1)), (jX f' g n2 p' pa' s sa sw (.ref (jpl w)) t, z)) ∧ K_m_line D' cx mf mg mn mb ml t1 z1 = K_m_line_149 D' d' cx mf' mg' mn mb ml t1 z1 ∧ lF (jq w) f p pa mf mg f' p' pa' mf' mg' ∧ rLn N g f' (p' (jq w)) (pa' (jq w)) mf' mg') ∨ (∃ f' p' pa' mf' mg', K_r_readLaw D w f g n2 p pa s sa sw t z = some (.inl (some (.int 0)), (jX f' g n2 p' pa' s sa sw (.ref (jpl w)) t, z)) ∧ K_m_line D' cx mf mg mn mb ml t1 z1 = some (.inl none, (jXt cx (jY mf' mg' mn mb ml t1), z1)) ∧ lF (jq w) f p pa mf mg f' p' pa' mf' mg' ∧ ¬ mf' 9 = 0 ∧ f' 7 = mf' 9 ∧ f' 8 = mf' 10)) := by
  have n10 : ¬ (1 : Int32) = 0 := by decide
  obtain ⟨W, H, Sc, fl, Wn, kn, cr, h1, h2, h3, h13, hT, hN, hC, hS, hW, hL⟩ := id h
  obtain ⟨q0, q1, q2, q3, q4, q6, q7, q5, q8, ⟨q9, q9', q9'', q9k⟩, q10⟩ := id hN
  have hfull : K_m_isFull D' 9 cx mf mg mn mb ml t1 z1 = some (.inl (some (.int 0)), (jXt cx (jY mf mg mn mb ml t1), z1)) := by
    simp +decide only [E_m_isFull, E_m_isFull_8, E_m_isFull_16, E_m_isFull_24, if_false]
  have honce : K_m_isOnce D' 9 cx mf mg mn mb ml t1 z1 = some (.inl (some (.int 0)), (jXt cx (jY mf mg mn mb ml t1), z1)) := by simp +decide only [E_m_isOnce, if_false]
  rw [E_m_line, if_pos h7, h8, if_neg (by decide), hfull, jbO_some, jk_some, E_m_line_17, if_pos rfl, honce, jbO_some, jk_some, E_m_line_24, if_pos rfl, E_m_line_37, if_neg (by decide), E_m_line_49, if_pos h3, E_r_readLaw]
  have hT0 : rTok N f (jup mf 2 (mf 2 ||| ((1 : Int32) <<< (9 &&& 31)))) := rTok_c (fun _ _ _ => rfl) (fun k a b => jup_ne (by omega)) h1
  have hF1 : lF (jq w) f p pa mf mg f p pa (jup mf 2 (mf 2 ||| ((1 : Int32) <<< (9 &&& 31)))) mg := lF.up (fun _ _ => rfl) (fun _ _ => rfl) (fun _ _ => rfl) (fun k hk => jup_ne (by omega)) lH.rf
  obtain ⟨f1, mf1, s1, s2, s3, s4, s5, -, s7, -⟩ := L_step (D := D) (D' := D') (f := f) (g := g) (n2 := n2) (p := p) (pa := pa) (s := s) (sa := sa) (sw := sw) (rp := .ref (jpl w)) (t := t) (z := z) (cx := cx) (mf := jup mf 2 (mf 2 ||| ((1 : Int32) <<< (9 &&& 31)))) (mg := mg) (mn := mn) (mb := mb) (ml := ml) (t1 := t1) (z1 := z1) hT0 h2
  have m19 : mf1 9 = 0 := by rw [s5 9 (by omega), jup_ne (by omega)]; exact h3
  have h63 : jev D' 160 63 ([some (.ref 79), some (.int 9)], []) [] ((jXt cx (jY mf1 mg mn mb ml t1), z1)) = jbO (K_m_lawLine D' cx mf1 mg mn mb ml t1 z1) (jk D' 160 149 ([some (.ref 79), some (.int 9)], []) []) := by
    rw [E_m_line_63]
    simp +decide only [if_false]
  rw [s1, jbO_some, jk_none, E_r_readLaw_3, s2, jbO_some, jk_none, h63, E_m_lawLine]
  have hF2 := hF1.tr (s7 (jq w))
  have hend : ∀ (m : Nat → Int32) (gg : Nat → Nat → Int32), ¬ m 9 = 0 → jbO (some (.inl none, (jXt cx (jY m gg mn mb ml t1), z1))) (jk D' 160 149 ([some (.ref 79), some (.int 9)], []) []) = some (.inl none, (jXt cx (jY m gg mn mb ml t1), z1)) := by
    intro m gg hm; rw [jbO_some, jk_none, F_m_line_149, B_line_149 hm]
  have b35 : ∀ (m : Nat → Int32) (x : Int32), ¬ m 9 = 0 → K_m_lawLine_35 D' x cx m mg mn mb ml t1 z1 = some (.inl none, (jXt cx (jY m mg mn mb ml t1), z1)) := by
    intro m x hm; rw [E_m_lawLine_35, if_neg hm]
  have b14 : ∀ (m : Nat → Int32), ¬ m 9 = 0 → K_m_lawLine_14 D' none cx m mg mn mb ml t1 z1 = some (.inl none, (jXt cx (jY m mg mn mb ml t1), z1)) := by
    intro m hm; rw [E_m_lawLine_14, if_neg hm]; exact b35 m _ hm
  have hfail : (K_r_readLaw_18 D w (some (.int (f1 12))) f1 g n2 p pa s sa sw t z = some (.inl (some (.int 0)), (jX (jup (jup f1 7 1) 8 (f1 13)) g n2 p pa s sa sw (.ref (jpl w)) t, z))) := by
    rw [E_r_readLaw_18, E_r_fail, jbO_some, jk_some, E_r_readLaw_21, if_pos (Or.inl rfl)]
  have hfailm : K_m_lawLine_11 D' none cx mf1 mg mn mb ml t1 z1 = some (.inl none, (jXt cx (jY (jup (jup mf1 10 (mf1 6)) 9 1) mg mn mb ml t1), z1)) := by
    rw [E_m_lawLine_11, M_wrong m19, jbO_some, jk_none, F_m_lawLine_14]; exact b14 _ (by rw [jup_same]; decide)
  obtain ⟨x3, x4, x5, x6⟩ := lfail (v := jq w) (k := 1) (p := p) (pa := pa) (mg := mg) s3 (by decide)
  have hw4 := tk_wd s3.2.2
  by_cases hk4 : f1 11 = 4
  rotate_left
  · right
    refine ⟨_, p, pa, _, mg, ?_, ?_, hF2.tr x3, x4, x5, x6⟩
    · rw [if_neg hk4]; exact hfail
    · rw [if_neg (fun q => hk4 (hw4.mpr q)), hfailm]; exact hend _ _ x4
  have hm7 := hw4.mp hk4
  obtain ⟨x, hx22, hvl, hva⟩ : ∃ x, x < 22 ∧ f1 12 = Int32.ofNat x ∧ mf1 8 = Int32.ofNat (wmp x) := by
    rcases s3.2.2 with ⟨a1, -⟩ | ⟨a1, -⟩ | ⟨a1, -⟩ | ⟨a1, -⟩ | ⟨-, -, x, a, b, c⟩ | ⟨a1, -⟩
    · rw [a1] at hk4; exact absurd hk4 (by decide)
    · rw [a1] at hk4; exact absurd hk4 (by decide)
    · rw [a1] at hk4; exact absurd hk4 (by decide)
    · rw [a1] at hk4; exact absurd hk4 (by decide)
    · exact ⟨x, a, b, c⟩
    · rw [a1] at hk4; exact absurd hk4 (by decide)
  have hwl := wmp_law x hx22
  have hw23 := wmp_lt x hx22
  rw [if_pos hk4, if_pos hm7, hvl, hva]
  by_cases hr : 9 ≤ x ∧ x < 12
  rotate_left
  · right
    refine ⟨_, p, pa, _, mg, ?_, ?_, hF2.tr x3, x4, x5, x6⟩
    · rw [hvl] at hfail
      by_cases q : x < 9
      · rw [if_pos (show Int32.ofNat x < 9 from jlt_t (b := 9) q (by omega))]; exact hfail
      · rw [if_neg (show ¬ Int32.ofNat x < 9 from jlt_n (b := 9) (by omega) (by omega)), if_neg (show ¬ Int32.ofNat x < 12 from jlt_n (b := 12) (by omega) (by omega))]; exact hfail
    · by_cases q : wmp x < 10
      · rw [if_pos (show Int32.ofNat (wmp x) < 10 from jlt_t (b := 10) q (by omega)), hfailm]; exact hend _ _ x4
      · have q2 : 12 < wmp x := by
          rcases Nat.lt_or_ge 12 (wmp x) with a | a
          · exact a
          · exact absurd (hwl.1.mpr ⟨by omega, a⟩) hr
        rw [if_neg (show ¬ Int32.ofNat (wmp x) < 10 from jlt_n (b := 10) (by omega) (by omega)), if_pos (show (12 : Int32) < Int32.ofNat (wmp x) from jlt_t (a := 12) q2 (by omega)), hfailm]; exact hend _ _ x4
  have hwx := hwl.2 hr
  obtain ⟨r, hr3, hxr⟩ : ∃ r, r < 3 ∧ x = 9 + r := ⟨x - 9, by omega, by omega⟩
  subst hxr
  rw [hwx] at hva ⊢
  have e8 : mf1 8 - 10 = Int32.ofNat r := by rw [hva, show (10 : Int32) = Int32.ofNat 10 from rfl, ← Int32.ofNat_sub (9 + r + 1) 10 (by omega)]; apply congrArg Int32.ofNat; omega
  have e9 : Int32.ofNat (9 + r) - 9 = Int32.ofNat r := by rw [show (9 : Int32) = Int32.ofNat 9 from rfl, ← Int32.ofNat_sub (9 + r) 9 (by omega)]; apply congrArg Int32.ofNat; omega
  have e16 : (16 : Int32) + Int32.ofNat r = Int32.ofNat (16 + r) := jofadd (a := 16)
  have e3 : (3 : Int32) + Int32.ofNat r = Int32.ofNat (3 + r) := jofadd (a := 3)
  rw [if_neg (show ¬ Int32.ofNat (9 + r) < 9 from jlt_n (b := 9) (by omega) (by omega)), if_pos (show Int32.ofNat (9 + r) < 12 from jlt_t (b := 12) (by omega) (by omega)), if_neg (show ¬ Int32.ofNat (9 + r + 1) < 10 from jlt_n (b := 10) (by omega) (by omega)), if_neg (show ¬ (12 : Int32) < Int32.ofNat (9 + r + 1) from jlt_n (a := 12) (by omega) (by omega)), E_r_isFirst, E_m_lawLine_14, if_pos m19, e8, e16]
  have m12 : mf1 2 = mf 2 ||| ((1 : Int32) <<< (9 &&& 31)) := by rw [s5 2 (by omega), jup_same]
  have hT1 : rTold f1 mf1 := told_up2 (c := 9) hT (by decide) (s4 2 (by omega)) (s4 5 (by omega)) (by rw [m12]; rfl)
  have hpair : (9 + r, 16 + r) ∈ ([(0, 0), (4, 4), (5, 5), (6, 7), (7, 8), (9, 16), (10, 17), (11, 18)] : List (Nat × Nat)) := by
    rcases jlt3 hr3 with rfl | rfl | rfl <;> decide
  have hbb : bt (f1 2) (9 + r) = bt (mf1 2) (16 + r) := hT1.1 _ hpair
  by_cases ht : bt (mf1 2) (16 + r) = true
  · right
    obtain ⟨y3, y4, y5, y6⟩ := lfail (v := jq w) (k := 3) (p := p) (pa := pa) (mg := mg) s3 (by decide)
    refine ⟨_, p, pa, _, mg, ?_, ?_, hF2.tr y3, y4, y5, y6⟩
    · rw [if_neg (by rw [jbit0 (by omega), hbb, ht]; decide), E_r_fail, jbO_some, jk_some, E_r_isFirst_10, if_pos (Or.inl rfl), jbO_some, jk_some, E_r_readLaw_25, if_pos rfl]
    · rw [if_pos (by rw [jbit10 (by omega)]; exact ht), M_wrong m19, jbO_some, jk_none, F_m_lawLine_35, b35 _ _ y4]; exact hend _ _ y4
  have ht' : bt (mf1 2) (16 + r) = false := by simpa using ht
  have hbf : bt (f 2) (9 + r) = false := by rw [← s4 2 (by omega), hbb]; exact ht'
  rw [if_pos (show ((f1 2 >>> (Int32.ofNat (9 + r) &&& 31)) &&& 1) = 0 by rw [jbit0 (by omega), hbb]; exact ht'), jbO_some, jk_some, E_r_readLaw_25, if_neg n10, e9, if_neg (show ¬ ((mf1 2 >>> (Int32.ofNat (16 + r) &&& 31)) &&& 1) = 1 by rw [jbit10 (by omega)]; exact ht), E_m_lawLine_35, if_pos m19, e16]
  generalize hf2 : jup (jup f1 2 (f1 2 ||| ((1 : Int32) <<< (Int32.ofNat (9 + r) &&& 31)))) 6 (Int32.ofNat r) = f2
  generalize hm2 : jup mf1 2 (mf1 2 ||| ((1 : Int32) <<< (Int32.ofNat (16 + r) &&& 31))) = mf2
  have hT2 : rTok N f2 mf2 := rTok_c (fun k a b => by rw [← hf2, jup_ne (by omega), jup_ne (by omega)]) (fun k a b => by rw [← hm2, jup_ne (by omega)]) s3
  obtain ⟨f3, mf3, r1, r2, r3, r4, r5, -, r7, -⟩ := L_step (D := D) (D' := D') (f := f2) (g := g) (n2 := n2) (p := p) (pa := pa) (s := s) (sa := sa) (sw := sw) (rp := .ref (jpl w)) (t := t) (z := z) (cx := cx) (mf := mf2) (mg := mg) (mn := mn) (mb := mb) (ml := ml) (t1 := t1) (z1 := z1) hT2 h2
  have hF3 : lF (jq w) f p pa mf mg f3 p pa mf3 mg := (hF2.tr (lF.up (fun k hk => by rw [← hf2, jup_ne (by omega), jup_ne (by omega)]) (fun _ _ => rfl) (fun _ _ => rfl) (fun k hk => by rw [← hm2, jup_ne (by omega)]) lH.rf)).tr (r7 _)
  have fr9 : ∀ (m : Nat → Int32) (gg : Nat → Nat → Int32), K_m_fresher D' 9 cx m gg mn mb ml t1 z1 = some (.inl (some (.int (gg 1 20))), (jXt cx (jY m gg mn mb ml t1), z1)) := fun m gg => M_fresher (x := 9) (by omega)
  have hjo6 : ¬ jout (Int32.ofNat (3 + r)) 6 := jout_n (by omega) (by omega)
  have hcl6 : (Int32.ofNat (3 + r)).toNatClampNeg = 3 + r := jclamp (by omega)
  rw [r1, jbO_some, jk_none, E_r_readLaw_36, r2, jbO_some, jk_none, E_m_lawLine_51, fr9, jbO_some, jk_some, e3, E_m_lawLine_59, if_neg hjo6, hcl6, q9']
  have m2k : ∀ k, k ≠ 2 → mf2 k = mf1 k := fun k hk => by rw [← hm2, jup_ne hk]
  have f2k : ∀ k, k ≠ 2 → k ≠ 6 → f2 k = f1 k := fun k a b => by rw [← hf2, jup_ne b, jup_ne a]
  obtain ⟨al, nl, l1, l2, l3, l4, l5, l6, l7⟩ := hL r hr3
  have hn0 : nl = 0 := l7 hbf
  subst hn0
  have hEx : rEx N r kn 0 kn 0 0 g f3 (p (jq w)) (pa (jq w)) mf3 (jup mg 10 (jup (mg 10) (3 + r) (Int32.ofNat kn))) := by
    refine ⟨r3, rTp_c (jup_ne (by omega)) h2, ?_, ⟨?_, hr3⟩, ⟨q9, ?_, q9k⟩, ⟨l1, ?_, Nat.le_refl _⟩, fun k hk => absurd hk (Nat.not_lt_zero k), rfl, ⟨?_, by omega⟩⟩
    · rw [r5 9 (by omega), m2k 9 (by omega)]; exact m19
    · rw [r4 6 (by omega), ← hf2, jup_same]
    · rw [r5 14 (by omega), m2k 14 (by omega), s5 14 (by omega), jup_ne (by omega)]; exact q9''
    · rw [jup_ne (by omega)]; exact q9'
    · rw [r5 13 (by omega), m2k 13 (by omega), s5 13 (by omega), jup_ne (by omega)]; exact h13
  have a10 := lH.up (mg := mg) (k := 10) (i := 3 + r) (v := Int32.ofNat kn) (Or.inr (Or.inr (Or.inr (Or.inr (Or.inl ⟨Or.inl rfl, by omega⟩)))))
  have hF4 : lF (jq w) f p pa mf mg f3 p pa mf3 (jup mg 10 (jup (mg 10) (3 + r) (Int32.ofNat kn))) := hF3.tr (lF.up (fun _ _ => rfl) (fun _ _ => rfl) (fun _ _ => rfl) (fun _ _ => rfl) a10)
  have hX := X_expr (N := N) (r := r) (a0 := kn) (g := g) (n2 := n2) (s := s) (sa := sa) (sw := sw) (t := t) (z := z) (w := w) (cx := cx) (mn := mn) (mb := mb) (ml := ml) (t1 := t1) (z1 := z1) 8 0 rfl f3 p pa mf3 (jup mg 10 (jup (mg 10) (3 + r) (Int32.ofNat kn))) kn 0 0 D D' (by omega) (by omega) hEx
  rcases hX with ⟨f4, p4, pa4, mf4, mg4, kc4, nd4, i1, i2, F4, i4, i5, i6⟩ | ⟨f4, p4, pa4, mf4, mg4, i1, i2, F4, b1, b2, b3⟩
  rotate_left
  · right
    have i1' : K_r_readEither D w 0 f3 g n2 p pa s sa sw t z = _ := i1
    have a11 := lH.up (mg := mg4) (k := 11) (i := 3 + r) (v := mg4 1 20) (Or.inr (Or.inr (Or.inr (Or.inr (Or.inl ⟨Or.inr rfl, by omega⟩)))))
    refine ⟨f4, p4, pa4, mf4, _, ?_, ?_, (hF4.tr F4.lF).tr (lF.up (fun _ _ => rfl) (fun _ _ => rfl) (fun _ _ => rfl) (fun _ _ => rfl) a11), b1, b2, b3⟩
    · rw [i1', jbO_some, jk_some, E_r_readLaw_39, if_pos (Or.inl rfl)]
    · rw [i2, jbO_some, jk_none, E_m_lawLine_62, fr9, jbO_some, jk_some, e3, E_m_lawLine_70, if_neg hjo6, hcl6]; exact hend _ _ b1
  left
  have i1' : K_r_readEither D w 0 f3 g n2 p pa s sa sw t z = _ := i1
  obtain ⟨j1, j2, j3, j4, ⟨j5, j5', j5''⟩, ⟨j6, j6', j6''⟩, j7, j8, ⟨j9, -⟩⟩ := i4
  obtain ⟨F41, F42, F43, F44, F45, F46, F47, F48, F49, F40⟩ := id F4
  have hkc : kc4 = kn + nd4 := by omega
  subst hkc
  have a11 := lH.up (mg := mg4) (k := 11) (i := 3 + r) (v := Int32.ofNat (kn + nd4)) (Or.inr (Or.inr (Or.inr (Or.inr (Or.inl ⟨Or.inr rfl, by omega⟩)))))
  have fk : ∀ k, k ≠ 2 → k ≠ 6 → k < 7 → f4 k = f k := fun k a b c => by rw [F41 k (by omega), r4 k (by omega), f2k k a b, s4 k (by omega)]
  have f42 : f4 2 = f1 2 ||| ((1 : Int32) <<< (Int32.ofNat (9 + r) &&& 31)) := by rw [F41 2 (by omega), r4 2 (by omega), ← hf2, jup_ne (by omega), jup_same]
  have m42 : mf4 2 = mf1 2 ||| ((1 : Int32) <<< (Int32.ofNat (16 + r) &&& 31)) := by rw [F45 2 (by omega), r5 2 (by omega), ← hm2, jup_same]
  have m43 : mf4 3 = mf 3 := by rw [F45 3 (by omega), r5 3 (by omega), m2k 3 (by omega), s5 3 (by omega), jup_ne (by omega)]
  have gk : ∀ k, k ≠ 1 → k ≠ 10 → k ≠ 11 → k ≠ 12 → k ≠ 13 → (jup mg4 11 (jup (mg4 11) (3 + r) (Int32.ofNat (kn + nd4)))) k = mg k := fun k a b c d e => by rw [jup_ne c, F46 k a d e, jup_ne b]
  have g1 : ∀ i, i ≠ 20 → (jup mg4 11 (jup (mg4 11) (3 + r) (Int32.ofNat (kn + nd4)))) 1 i = mg 1 i := fun i hi => by rw [jup_ne (by omega), F47 i hi, jup_ne (by omega)]
  have g10 : (jup mg4 11 (jup (mg4 11) (3 + r) (Int32.ofNat (kn + nd4)))) 10 = jup (mg 10) (3 + r) (Int32.ofNat kn) := by rw [jup_ne (by omega), F46 10 (by omega) (by omega) (by omega), jup_same]
  have g11 : (jup mg4 11 (jup (mg4 11) (3 + r) (Int32.ofNat (kn + nd4)))) 11 = jup (mg 11) (3 + r) (Int32.ofNat (kn + nd4)) := by rw [jup_same, F46 11 (by omega) (by omega) (by omega), jup_ne (show (11 : Nat) ≠ 10 by omega)]
  refine ⟨f4, p4, pa4, mf4, jup mg4 11 (jup (mg4 11) (3 + r) (Int32.ofNat (kn + nd4))), some (.int 9), ?_, ?_, (hF4.tr F4.lF).tr (lF.up (fun _ _ => rfl) (fun _ _ => rfl) (fun _ _ => rfl) (fun _ _ => rfl) a11), ?_⟩
  · rw [i1', jbO_some, jk_some, E_r_readLaw_39, if_pos (Or.inr rfl)]
  · rw [i2, jbO_some, jk_none, E_m_lawLine_62, fr9, jbO_some, jk_some, e3, j6', E_m_lawLine_70, if_neg hjo6, hcl6, jbO_some, jk_none, F_m_line_149]
  · refine ⟨W, H, Sc, fl, Wn, kn + nd4, cr, j1, rTp_c (jup_ne (by omega)) j2, j3, j9, ?_, ?_, ?_, ?_, ?_, ?_⟩
    · exact told_up (a := 9 + r) (c := 16 + r) hT1 hpair f42 (by rw [fk 5 (by omega) (by omega) (by omega), s4 5 (by omega)]) m42
    · unfold rNum
      rw [m43, fk 4 (by omega) (by omega) (by omega), F43 0 (by omega) (by omega), F43 1 (by omega) (by omega), F43 2 (by omega) (by omega), F43 3 (by omega) (by omega), F43 4 (by omega) (by omega), F43 5 (by omega) (by omega), F43 6 (by omega) (by omega), F43 7 (by omega) (by omega), F43 8 (by omega) (by omega), g1 11 (by omega), g1 12 (by omega), g1 13 (by omega), g1 14 (by omega), g1 15 (by omega), g1 16 (by omega), g1 17 (by omega), g1 18 (by omega), g1 21 (by omega), jup_ne (show (1 : Nat) ≠ 11 by omega)]
      exact ⟨q0, q1, q2, q3, q4, q6, q7, q5, q8, ⟨j5, j6', j5', j5''⟩, q10⟩
    · intro c hc
      rw [fk 3 (by omega) (by omega) (by omega), gk 2 (by omega) (by omega) (by omega) (by omega) (by omega), F44 0 (by omega) (by omega)]
      exact hC c hc
    · refine ⟨fun i hi => ?_, fun q => by rw [fk 5 (by omega) (by omega) (by omega)]; exact hS.2 q⟩
      rw [gk 3 (by omega) (by omega) (by omega) (by omega) (by omega), gk 4 (by omega) (by omega) (by omega) (by omega) (by omega), gk 5 (by omega) (by omega) (by omega) (by omega) (by omega), gk 6 (by omega) (by omega) (by omega) (by omega) (by omega), gk 7 (by omega) (by omega) (by omega) (by omega) (by omega), gk 8 (by omega) (by omega) (by omega) (by omega) (by omega), F44 1 (by omega) (by omega), F44 2 (by omega) (by omega), F44 3 (by omega) (by omega), F44 4 (by omega) (by omega), F44 5 (by omega) (by omega), F44 6 (by omega) (by omega)]
      exact hS.1 i hi
    · intro d hd
      rw [gk 9 (by omega) (by omega) (by omega) (by omega) (by omega), F44 7 (by omega) (by omega)]
      exact hW d hd
    · intro r' hr'
      by_cases hrr : r' = r
      · subst hrr
        refine ⟨kn, nd4, j6, by rw [g10, jup_same], by rw [g11, jup_same], Nat.le_refl _, ⟨by omega, Or.inr j8⟩, fun k hk => ?_, fun q => ?_⟩
        · rw [jup_ne (show (12 : Nat) ≠ 11 by omega), jup_ne (show (13 : Nat) ≠ 11 by omega)]; exact j7 k hk
        · rw [f42, b_or, b_one _ (by omega) (by omega)] at q; simp at q
      · refine rLw_c (hL r' hr') (by omega) (F43 (10 + r') (by omega) (by omega)) (F44 _ (by omega) (by omega)) (F44 _ (by omega) (by omega)) (by rw [g10, jup_ne (by omega)]) (by rw [g11, jup_ne (by omega)]) (fun k hk => ⟨?_, ?_⟩) (fun q => ?_)
        · rw [jup_ne (show (12 : Nat) ≠ 11 by omega), (F48 (64 + k) (by omega)).1, jup_ne (by omega)]
        · rw [jup_ne (show (13 : Nat) ≠ 11 by omega), (F48 (64 + k) (by omega)).2, jup_ne (by omega)]
        · rw [f42, b_or] at q
          simp only [Bool.or_eq_false_iff] at q
          rw [← s4 2 (by omega)]; exact q.1
