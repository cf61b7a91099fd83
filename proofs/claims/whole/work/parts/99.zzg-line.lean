-- READING LINES: a flap
def jora (a : Nat) : Nat → Int32
  | 0 => 0
  | k + 1 => jora a k ||| ((1 : Int32) <<< (Int32.ofNat (a + k) &&& 31))
theorem jora_eq : ∀ a, a < 12 → ∀ c, c < 12 → a ≤ c → jora a (c + 1 - a) = ((1 : Int32) <<< (Int32.ofNat (c + 1) &&& 31)) - ((1 : Int32) <<< (Int32.ofNat a &&& 31)) := by decide +kernel
theorem M_flap_70 {D fl : Nat} {d1 d2 d3 d4 : Option Value} {cx : jCX} {f : Nat → Int32} {g : Nat → Nat → Int32} {n : Nat → Nat → Int64} {b : Nat → Nat → Int32} {l : Nat → Int64} {t : List jE} {z : Nat × Nat × Nat × (Nat → Int32)} (h14 : g 1 14 = Int32.ofNat fl) : K_m_flapLine_70 D d1 d2 d3 d4 cx f g n b l t z = some (.inl none, (jXt cx (jY f (jup g 1 (jup (g 1) 14 (Int32.ofNat (fl + 1)))) n b l t), z)) := by
  have hfr : K_m_fresher D 3 cx f g n b l t z = some (.inl (some (.int (g 1 14))), (jXt cx (jY f g n b l t), z)) := M_fresher (x := 3) (by omega)
  have r3 : ∀ u, K_m_reads D 3 u cx f g n b l t z = _ := fun u => M_reads (x := 3) (by omega)
  rw [E_m_flapLine_70, hfr, jbO_some, jk_some, E_m_flapLine_75, h14, jsucc, r3, jbO_some, jk_none, E_m_flapLine_78]
theorem B_flap_52 {D fl : Nat} {x1 x3 x4 : Int32} {d2 : Option Value} {cx : jCX} {f : Nat → Int32} {g : Nat → Nat → Int32} {n : Nat → Nat → Int64} {b : Nat → Nat → Int32} {l : Nat → Int64} {t : List jE} {z : Nat × Nat × Nat × (Nat → Int32)} (hb : ¬ f 9 = 0) (h14 : g 1 14 = Int32.ofNat fl) : K_m_flapLine_52 D x1 d2 x3 x4 cx f g n b l t z = some (.inl none, (jXt cx (jY f (jup g 1 (jup (g 1) 14 (Int32.ofNat (fl + 1)))) n b l t), z)) := by
  rw [L_m_flapLine_52]
  by_cases h : x3 < x4
  · rw [if_pos h]; exact M_flap_70 h14
  · rw [if_neg h, if_neg hb]; exact M_flap_70 h14
theorem M_flap_52 {D fl i a c : Nat} {d2 : Option Value} {cx : jCX} {f : Nat → Int32} {g : Nat → Nat → Int32} {n : Nat → Nat → Int64} {b : Nat → Nat → Int32} {l : Nat → Int64} {t : List jE} {z : Nat × Nat × Nat × (Nat → Int32)} (h9 : f 9 = 0) (h14 : g 1 14 = Int32.ofNat fl) (hi : i < 6) (ha : a ≤ c) (hc : c < 12) : K_m_flapLine_52 D (Int32.ofNat (6 + i)) d2 (Int32.ofNat c) (Int32.ofNat a) cx f g n b l t z = some (.inl none, (jXt cx (jY f (jup (jup g 8 (jup (g 8) (6 + i) (g 8 (6 + i) ||| jora a (c + 1 - a)))) 1 (jup (g 1) 14 (Int32.ofNat (fl + 1)))) n b l t), z)) := by
  have key : ∀ k, k ≤ c + 1 - a → K_m_flapLine_52 D (Int32.ofNat (6 + i)) d2 (Int32.ofNat c) (Int32.ofNat a) cx f g n b l t z = K_m_flapLine_52 D (Int32.ofNat (6 + i)) d2 (Int32.ofNat c) (Int32.ofNat (a + k)) cx f (jup g 8 (jup (g 8) (6 + i) (g 8 (6 + i) ||| jora a k))) n b l t z := by
    intro k
    induction k with
    | zero => intro _; rw [jora, Int32.or_zero, jup_self, jup_self]; rfl
    | succ k ih =>
      intro hk
      have hj : ¬ jout (Int32.ofNat (6 + i)) 12 := jout_n (by omega) (by omega)
      rw [ih (by omega), L_m_flapLine_52, if_neg (jlt_n (by omega) (by omega)), if_pos h9, if_neg hj, if_neg hj, jclamp (show 6 + i < 2147483648 by omega), jup_same, jup_same, jup_jup, jup_jup, jsucc, jora, Int32.or_assoc]
      rfl
  rw [key _ (Nat.le_refl _), L_m_flapLine_52, if_pos (jlt_t (by omega) (by omega)), M_flap_70 (by rw [jup_ne (by omega)]; exact h14), jup_ne (show (1 : Nat) ≠ 8 by omega)]
theorem L_flap {D D' N : Nat} {f : Nat → Int32} {g : Nat → Nat → Int32} {n2 : Nat → Nat → Int64} {p : Nat → Nat → Int32} {pa : Nat → Nat → Nat → Int32} {s : Nat → Nat → Int32} {sa : Nat → Nat → Nat → Int32} {sw : Bool} {t : List jE} {z : Nat × Nat × Nat × (Nat → Int32)} {w : Bool} {cx : jCX} {mf : Nat → Int32} {mg : Nat → Nat → Int32} {mn : Nat → Nat → Int64} {mb : Nat → Nat → Int32} {ml : Nat → Int64} {t1 : List jE} {z1 : Nat × Nat × Nat × (Nat → Int32)} (h : rLn N g f (p (jq w)) (pa (jq w)) mf mg) (h7 : mf 7 = 0) (h8 : mf 8 = 3) : ((∃ f' p' pa' mf' mg' d', K_r_readFlap D w f g n2 p pa s sa sw t z = some (.inl (some (.int 1)), (jX f' g n2 p' pa' s sa sw (.ref (jpl w)) t, z)) ∧ K_m_line D' cx mf mg mn mb ml t1 z1 = K_m_line_149 D' d' cx mf' mg' mn mb ml t1 z1 ∧ lF (jq w) f p pa mf mg f' p' pa' mf' mg' ∧ rLn N g f' (p' (jq w)) (pa' (jq w)) mf' mg') ∨ (∃ f' p' pa' mf' mg', K_r_readFlap D w f g n2 p pa s sa sw t z = some (.inl (some (.int 0)), (jX f' g n2 p' pa' s sa sw (.ref (jpl w)) t, z)) ∧ K_m_line D' cx mf mg mn mb ml t1 z1 = some (.inl none, (jXt cx (jY mf' mg' mn mb ml t1), z1)) ∧ lF (jq w) f p pa mf mg f' p' pa' mf' mg' ∧ ¬ mf' 9 = 0 ∧ f' 7 = mf' 9 ∧ f' 8 = mf' 10)) := by
  have n10 : ¬ (1 : Int32) = 0 := by decide
  obtain ⟨W, H, Sc, fl, Wn, kn, cr, h1, h2, h3, h13, hT, hN, hC, hS, hW, hL⟩ := id h
  obtain ⟨q0, q1, q2, ⟨q3, q3', hS6⟩, ⟨q4, q4', q4''⟩, q6, q7, q5, q8, q9, q10⟩ := id hN
  have fr2 : ∀ m : Nat → Int32, K_m_fresher D' 2 cx m mg mn mb ml t1 z1 = some (.inl (some (.int (Int32.ofNat Sc))), (jXt cx (jY m mg mn mb ml t1), z1)) := by
    intro m
    have := M_fresher (D := D') (x := 2) (cx := cx) (f := m) (g := mg) (n := mn) (b := mb) (l := ml) (t := t1) (z := z1) (by omega)
    rw [show (11 + 2 : Nat) = 13 from rfl, q3'] at this
    exact this
  have hfr : K_m_fresher D' 3 cx mf mg mn mb ml t1 z1 = some (.inl (some (.int (mg 1 14))), (jXt cx (jY mf mg mn mb ml t1), z1)) := M_fresher (x := 3) (by omega)
  have hfull : K_m_isFull D' 3 cx mf mg mn mb ml t1 z1 = if mg 1 14 = 10 then some (.inl (some (.int 1)), (jXt cx (jY mf mg mn mb ml t1), z1)) else some (.inl (some (.int 0)), (jXt cx (jY mf mg mn mb ml t1), z1)) := by
    simp +decide only [E_m_isFull, E_m_isFull_8, E_m_isFull_16, E_m_isFull_24, if_false, if_true, hfr, jbO_some, jbO_none, jbO_ite, jk_some, jk_none, E_m_isFull_22]
  have honce : K_m_isOnce D' 3 cx mf mg mn mb ml t1 z1 = some (.inl (some (.int 0)), (jXt cx (jY mf mg mn mb ml t1), z1)) := by simp +decide only [E_m_isOnce, if_false]
  rw [E_m_line, if_pos h7, h8, if_neg (by decide), hfull, E_r_readFlap]
  by_cases hf : fl < 10
  rotate_left
  · right
    have hfl : fl = 10 := by omega
    obtain ⟨x3, x4, x5, x6⟩ := lfail (v := jq w) (k := 2) (p := p) (pa := pa) (mg := mg) h1 (by decide)
    refine ⟨_, p, pa, _, mg, ?_, ?_, x3, x4, x5, x6⟩
    · rw [if_neg (by rw [q4]; exact jlt_n (b := 10) (by omega) (by omega)), E_r_fail, jbO_some, jk_some, E_r_readFlap_8, if_pos (Or.inl rfl)]
    · rw [if_pos (by rw [q4', hfl]; rfl), jbO_some, jk_some, E_m_line_17, if_neg n10, M_wrong h3, jbO_some, jk_none, E_m_line_21, B_line_49 x4]
  have hn10' : ¬ mg 1 14 = 10 := by rw [q4']; intro q; have := jofinj (b := 10) (by omega) (by omega) q; omega
  rw [if_pos (by rw [q4]; exact jlt_t (b := 10) hf (by omega)), if_neg hn10', jbO_some, jk_some, E_m_line_17, if_pos rfl, honce, jbO_some, jk_some, E_m_line_24, if_pos rfl, E_m_line_37, if_neg (by decide), E_m_line_49, if_pos h3, q4, jsucc]
  have hT0 : rTok N f (jup mf 2 (mf 2 ||| ((1 : Int32) <<< (3 &&& 31)))) := rTok_c (fun _ _ _ => rfl) (fun k a b => jup_ne (by omega)) h1
  obtain ⟨f1, mf1, s1, s2, s3, s4, s5, -, s7, -⟩ := L_step (D := D) (D' := D') (f := f) (g := g) (n2 := n2) (p := jup p (jq w) (jup (p (jq w)) 4 (Int32.ofNat (fl + 1)))) (pa := pa) (s := s) (sa := sa) (sw := sw) (rp := .ref (jpl w)) (t := t) (z := z) (cx := cx) (mf := jup mf 2 (mf 2 ||| ((1 : Int32) <<< (3 &&& 31)))) (mg := mg) (mn := mn) (mb := mb) (ml := ml) (t1 := t1) (z1 := z1) hT0 h2
  have hF1 : lF (jq w) f p pa mf mg f (jup p (jq w) (jup (p (jq w)) 4 (Int32.ofNat (fl + 1)))) pa (jup mf 2 (mf 2 ||| ((1 : Int32) <<< (3 &&& 31)))) mg := lF.up (fun _ _ => rfl) (fun j hj => jup_ne hj) (fun _ _ => rfl) (fun k hk => jup_ne (by omega)) lH.rf
  have m19 : mf1 9 = 0 := by rw [s5 9 (by omega), jup_ne (by omega)]; exact h3
  have h63 : jev D' 160 63 ([some (.ref 79), some (.int 3)], []) [] ((jXt cx (jY mf1 mg mn mb ml t1), z1)) = jbO (K_m_flapLine D' cx mf1 mg mn mb ml t1 z1) (jk D' 160 93 ([some (.ref 79), some (.int 3)], []) []) := by
    rw [E_m_line_63]
    simp +decide only [if_false, if_true]
  rw [s1, jbO_some, jk_none, E_r_readFlap_19, s2, jbO_some, jk_none, h63, E_m_flapLine]
  have hF2 := hF1.tr (s7 (jq w))
  have hend : ∀ (m : Nat → Int32) (gg : Nat → Nat → Int32), ¬ m 9 = 0 → jbO (some (.inl none, (jXt cx (jY m gg mn mb ml t1), z1))) (jk D' 160 93 ([some (.ref 79), some (.int 3)], []) []) = some (.inl none, (jXt cx (jY m gg mn mb ml t1), z1)) := by
    intro m gg hm; rw [jbO_some, jk_none, E_m_line_93, B_line_149 hm]
  have b22 : ∀ (m : Nat → Int32), ¬ m 9 = 0 → K_m_flapLine_22 D' none none none none cx m mg mn mb ml t1 z1 = some (.inl none, (jXt cx (jY m mg mn mb ml t1), z1)) := by
    intro m hm; rw [E_m_flapLine_22, if_neg hm]
  have hnm := tk_name s3.2.2
  by_cases hk3 : f1 11 = 3
  rotate_left
  · right
    obtain ⟨x3, x4, x5, x6⟩ := lfail (v := jq w) (k := 1) (p := jup p (jq w) (jup (p (jq w)) 4 (Int32.ofNat (fl + 1)))) (pa := pa) (mg := mg) s3 (by decide)
    refine ⟨_, _, pa, _, mg, ?_, ?_, hF2.tr x3, x4, x5, x6⟩
    · rw [if_neg hk3, E_r_fail, jbO_some, jk_some, E_r_readFlap_27, if_pos (Or.inl rfl)]
    · rw [if_neg (fun q => hk3 (hnm.1.mpr q)), M_wrong m19, jbO_some, jk_none, E_m_flapLine_7, b22 _ x4]; exact hend _ _ x4
  have hm1 : mf1 7 = 1 := hnm.1.mp hk3
  have hmv : mf1 8 = f1 12 := hnm.2 hk3
  obtain ⟨u, c1, c2, c3⟩ := L_find (D := D) (D' := D') (x := f1 12) (w := w) (f := f1) (g := g) (n2 := n2) (p := jup p (jq w) (jup (p (jq w)) 4 (Int32.ofNat (fl + 1)))) (pa := pa) (s := s) (sa := sa) (sw := sw) (rp := .ref (jpl w)) (t := t) (z := z) (cx := cx) (mf := mf1) (mg := mg) (mn := mn) (mb := mb) (ml := ml) (t1 := t1) (z1 := z1) (by rw [jup_same, jup_ne (by omega)]; exact q3) hS6 (fun i hi => (hS.1 i hi).1)
  rw [if_pos hk3, c1, jbO_some, jk_some, E_r_readFlap_34, if_pos hm1, fr2, jbO_some, jk_some, E_m_flapLine_14, hmv, c2, jbO_some, jk_some, E_m_flapLine_17]
  rcases c3 with hu | ⟨i, hi, hu⟩
  · right
    obtain ⟨x3, x4, x5, x6⟩ := lfail (v := jq w) (k := 4) (p := jup p (jq w) (jup (p (jq w)) 4 (Int32.ofNat (fl + 1)))) (pa := pa) (mg := mg) s3 (by decide)
    refine ⟨_, _, pa, _, mg, ?_, ?_, hF2.tr x3, x4, x5, x6⟩
    · rw [if_pos hu, E_r_fail, jbO_some, jk_some, E_r_readFlap_41, if_pos (Or.inl rfl)]
    · rw [if_pos hu, M_wrong m19, jbO_some, jk_none, F_m_flapLine_22, b22 _ x4]; exact hend _ _ x4
  subst hu
  have hne : ¬ Int32.ofNat i = -1 := by rw [jnot_one (by omega)]; exact fun q => q
  have hi6 : i < 6 := by omega
  obtain ⟨f2, mf2, e1, e2, e3, e4, e5, -, e7, -⟩ := L_step (D := D) (D' := D') (f := f1) (g := g) (n2 := n2) (p := jup p (jq w) (jup (p (jq w)) 4 (Int32.ofNat (fl + 1)))) (pa := pa) (s := s) (sa := sa) (sw := sw) (rp := .ref (jpl w)) (t := t) (z := z) (cx := cx) (mf := mf1) (mg := mg) (mn := mn) (mb := mb) (ml := ml) (t1 := t1) (z1 := z1) s3 h2
  have m29 : mf2 9 = 0 := by rw [e5 9 (by omega)]; exact m19
  have hF3 := hF2.tr (e7 (jq w))
  have hix6 : (6 : Int32) + Int32.ofNat i = Int32.ofNat (6 + i) := jofadd (a := 6)
  rw [if_neg hne, e1, jbO_some, jk_none, E_r_readFlap_45, if_neg hne, E_m_flapLine_22, if_pos m19, fr2, jbO_some, jk_some, E_m_flapLine_33, hmv, c2, jbO_some, jk_some, E_m_flapLine_36, hix6, e2, jbO_some, jk_none, E_m_flapLine_40]
  have hlF : ∀ v : Int32, lH mg (jup mg 1 (jup (mg 1) 14 v)) := fun v => lH.up (Or.inl ⟨rfl, by omega⟩)
  rcases L_num (D := D) (D' := D') (a := 0) (b0 := 11) (f := f2) (g := g) (n2 := n2) (p := jup p (jq w) (jup (p (jq w)) 4 (Int32.ofNat (fl + 1)))) (pa := pa) (s := s) (sa := sa) (sw := sw) (t := t) (z := z) (w := w) (cx := cx) (mf := mf2) (mg := mg) (mn := mn) (mb := mb) (ml := ml) (t1 := t1) (z1 := z1) e3 h2 m29 (by omega) (by omega) with ⟨a, f3, mf3, -, ha, a1, a2, a3, a4, a5, a6, a7⟩ | ⟨f3, mf3, a1, a3, a7, b1, b2, b3⟩
  rotate_left
  · right
    have a1' : K_r_isNumber D w 0 11 f2 g n2 (jup p (jq w) (jup (p (jq w)) 4 (Int32.ofNat (fl + 1)))) pa s sa sw t z = _ := a1
    have a3' : K_m_numeral D' 0 11 cx mf2 mg mn mb ml t1 z1 = _ := a3
    refine ⟨f3, _, pa, mf3, _, ?_, ?_, (hF3.tr (a7 _)).tr (lF.up (fun _ _ => rfl) (fun _ _ => rfl) (fun _ _ => rfl) (fun _ _ => rfl) (hlF (Int32.ofNat (fl + 1)))), b1, b2, b3⟩
    · rw [a1', jbO_some, jk_some, E_r_readFlap_49, if_pos rfl]
    · rw [a3', jbO_some, jk_some, E_m_flapLine_44, B_numeral b1, jbO_some, jk_some, E_m_flapLine_49, B_flap_52 b1 q4']; exact hend _ _ b1
  have a1' : K_r_isNumber D w 0 11 f2 g n2 (jup p (jq w) (jup (p (jq w)) 4 (Int32.ofNat (fl + 1)))) pa s sa sw t z = _ := a1
  have a3' : K_m_numeral D' 0 11 cx mf2 mg mn mb ml t1 z1 = _ := a3
  have m39 : mf3 9 = 0 := by rw [a6 9 (by omega)]; exact m29
  rw [a1', jbO_some, jk_some, E_r_readFlap_49, if_neg n10, a2, jbO_some, jk_some, E_r_readFlap_54, a3', jbO_some, jk_some, E_m_flapLine_44]
  rcases L_num (D := D) (D' := D') (a := a) (b0 := 11) (f := f3) (g := g) (n2 := n2) (p := jup p (jq w) (jup (p (jq w)) 4 (Int32.ofNat (fl + 1)))) (pa := pa) (s := s) (sa := sa) (sw := sw) (t := t) (z := z) (w := w) (cx := cx) (mf := mf3) (mg := mg) (mn := mn) (mb := mb) (ml := ml) (t1 := t1) (z1 := z1) a4 h2 m39 (by omega) (by omega) with ⟨c, f4, mf4, hac, hc, d1, d2, d3, d4, d5, d6, d7⟩ | ⟨f4, mf4, d1, d3, d7, b1, b2, b3⟩
  rotate_left
  · right
    have d1' : K_r_isNumber D w (Int32.ofNat a) 11 f3 g n2 (jup p (jq w) (jup (p (jq w)) 4 (Int32.ofNat (fl + 1)))) pa s sa sw t z = _ := d1
    have d3' : K_m_numeral D' (Int32.ofNat a) 11 cx mf3 mg mn mb ml t1 z1 = _ := d3
    refine ⟨f4, _, pa, mf4, _, ?_, ?_, ((hF3.tr (a7 _)).tr (d7 _)).tr (lF.up (fun _ _ => rfl) (fun _ _ => rfl) (fun _ _ => rfl) (fun _ _ => rfl) (hlF (Int32.ofNat (fl + 1)))), b1, b2, b3⟩
    · rw [d1', jbO_some, jk_some, E_r_readFlap_59, if_pos rfl]
    · rw [d3', jbO_some, jk_some, E_m_flapLine_49, B_flap_52 b1 q4']; exact hend _ _ b1
  left
  have d1' : K_r_isNumber D w (Int32.ofNat a) 11 f3 g n2 (jup p (jq w) (jup (p (jq w)) 4 (Int32.ofNat (fl + 1)))) pa s sa sw t z = _ := d1
  have d3' : K_m_numeral D' (Int32.ofNat a) 11 cx mf3 mg mn mb ml t1 z1 = _ := d3
  have m49 : mf4 9 = 0 := by rw [d6 9 (by omega)]; exact m39
  have fk : ∀ k, k < 10 ∨ 13 < k → f4 k = f k := fun k hk => by rw [d5 k hk, a5 k hk, e4 k hk, s4 k hk]
  have mk : ∀ k, k < 4 ∨ 8 < k → mf4 k = (jup mf 2 (mf 2 ||| ((1 : Int32) <<< (3 &&& 31)))) k := fun k hk => by rw [d6 k hk, a6 k hk, e5 k hk, s5 k hk]
  have hjo : ¬ jout (Int32.ofNat i) 6 := jout_n hi6 (by omega)
  have w8 := lH.up (mg := mg) (k := 8) (i := 6 + i) (v := mg 8 (6 + i) ||| jora a (c + 1 - a)) (Or.inr (Or.inr (Or.inl ⟨by omega, by omega, by omega⟩)))
  have w1 := lH.up (mg := jup mg 8 (jup (mg 8) (6 + i) (mg 8 (6 + i) ||| jora a (c + 1 - a)))) (k := 1) (i := 14) (v := Int32.ofNat (fl + 1)) (Or.inl ⟨rfl, by omega⟩)
  rw [jup_ne (show (1 : Nat) ≠ 8 by omega)] at w1
  refine ⟨f4, jup p (jq w) (jup (p (jq w)) 4 (Int32.ofNat (fl + 1))), jup pa (jq w) (jup (pa (jq w)) 6 (jup (pa (jq w) 6) i (pa (jq w) 6 i ||| jora a (c + 1 - a)))), mf4, jup (jup mg 8 (jup (mg 8) (6 + i) (mg 8 (6 + i) ||| jora a (c + 1 - a)))) 1 (jup (mg 1) 14 (Int32.ofNat (fl + 1))), some (.int 3), ?_, ?_, ((hF3.tr (a7 _)).tr (d7 _)).tr (lF.up (fun _ _ => rfl) (fun _ _ => rfl) (fun j hj => jup_ne hj) (fun _ _ => rfl) (w8.tr w1)), ?_⟩
  · rw [d1', jbO_some, jk_some, E_r_readFlap_59, if_neg n10, d2, jbO_some, jk_some, E_r_readFlap_64, if_neg hjo, if_neg hjo, jclamp (show i < 2147483648 by omega), jsucc, jora_eq a (by omega) c (by omega) hac]
  · rw [d3', jbO_some, jk_some, E_m_flapLine_49, M_flap_52 m49 q4' hi6 hac (by omega), jbO_some, jk_none, E_m_line_93]
  · rw [jup_same, jup_same]
    refine ⟨W, H, Sc, fl + 1, Wn, kn, cr, d4, rTp_c (by rw [jup_ne (by omega), jup_ne (by omega)]) h2, m49, by rw [mk 13 (by omega), jup_ne (by omega)]; exact h13, ?_, ?_, ?_, ?_, ?_, ?_⟩
    · exact told_up2 (c := 3) hT (by decide) (fk 2 (by omega)) (fk 5 (by omega)) (by rw [mk 2 (by omega), jup_same]; rfl)
    · unfold rNum
      rw [jup_same, mk 3 (by omega), mk 14 (by omega), fk 4 (by omega)]
      simp (disch := omega) only [jup_ne, jup_same]
      exact ⟨q0, q1, q2, ⟨q3, q3', hS6⟩, ⟨trivial, trivial, by omega⟩, q6, q7, q5, q8, q9, q10⟩
    · intro x hx
      rw [fk 3 (by omega)]
      simp (disch := omega) only [jup_ne]
      exact hC x hx
    · refine ⟨fun x hx => ?_, fun q => by rw [fk 5 (by omega)]; exact hS.2 q⟩
      obtain ⟨b1, b2, b3, b4, b5, b6, b7, b8⟩ := hS.1 x hx
      simp (disch := omega) only [jup_ne, jup_same]
      refine ⟨b1, b2, b3, b4, b5, ?_, b7, b8⟩
      by_cases hxi : x = i
      · subst hxi; rw [jup_same, jup_same, b6]
      · rw [jup_ne hxi, jup_ne (by omega)]; exact b6
    · intro d hd
      simp (disch := omega) only [jup_ne]
      exact hW d hd
    · intro r hr
      refine rLw_c (hL r hr) (Nat.le_refl kn) (by rw [jup_ne (by omega)]) (by rw [jup_ne (by omega)]) (by rw [jup_ne (by omega)]) (by rw [jup_ne (by omega), jup_ne (by omega)]) (by rw [jup_ne (by omega), jup_ne (by omega)]) (fun k _ => ⟨by rw [jup_ne (by omega), jup_ne (by omega)], by rw [jup_ne (by omega), jup_ne (by omega)]⟩) (fun q => ?_)
      rw [fk 2 (by omega)] at q; exact q
