-- READING LINES: names, traits
theorem L_find {D D' Sc : Nat} {x : Int32} {w : Bool} {f : Nat → Int32} {g : Nat → Nat → Int32} {n2 : Nat → Nat → Int64} {p : Nat → Nat → Int32} {pa : Nat → Nat → Nat → Int32} {s : Nat → Nat → Int32} {sa : Nat → Nat → Nat → Int32} {sw : Bool} {rp : Value} {t : List jE} {z : Nat × Nat × Nat × (Nat → Int32)} {cx : jCX} {mf : Nat → Int32} {mg : Nat → Nat → Int32} {mn : Nat → Nat → Int64} {mb : Nat → Nat → Int32} {ml : Nat → Int64} {t1 : List jE} {z1 : Nat × Nat × Nat × (Nat → Int32)} (h3 : p (jq w) 3 = Int32.ofNat Sc) (hS : Sc ≤ 6) (he : ∀ i, i < Sc → mg 3 (6 + i) = pa (jq w) 1 i) :
    ∃ u, K_p_find D w x f g n2 p pa s sa sw rp t z = some (.inl (some (.int u)), (jX f g n2 p pa s sa sw rp t, z)) ∧ K_m_found D' 6 (Int32.ofNat Sc) x cx mf mg mn mb ml t1 z1 = some (.inl (some (.int u)), (jXt cx (jY mf mg mn mb ml t1), z1)) ∧ (u = -1 ∨ ∃ i, i < Sc ∧ u = Int32.ofNat i) := by
  have key : ∀ c i, Sc - i = c → i ≤ Sc → ∃ u, K_p_find_2 D w x (Int32.ofNat i) f g n2 p pa s sa sw rp t z = some (.inl (some (.int u)), (jX f g n2 p pa s sa sw rp t, z)) ∧ K_m_found_2 D' 6 (Int32.ofNat Sc) x (Int32.ofNat i) cx mf mg mn mb ml t1 z1 = some (.inl (some (.int u)), (jXt cx (jY mf mg mn mb ml t1), z1)) ∧ (u = -1 ∨ ∃ i, i < Sc ∧ u = Int32.ofNat i) := by
    intro c
    induction c with
    | zero =>
      intro i hc hi
      refine ⟨-1, ?_, ?_, Or.inl rfl⟩
      · rw [L_p_find_2, h3, if_neg (jlt_n (by omega) (by omega))]
      · rw [L_m_found_2, if_neg (jlt_n (by omega) (by omega))]
    | succ c ih =>
      intro i hc hi
      have hiS : i < Sc := by omega
      have hix : (6 : Int32) + Int32.ofNat i = Int32.ofNat (6 + i) := jofadd (a := 6)
      have e1 : K_p_find_2 D w x (Int32.ofNat i) f g n2 p pa s sa sw rp t z = if pa (jq w) 1 i = x then some (.inl (some (.int (Int32.ofNat i))), (jX f g n2 p pa s sa sw rp t, z)) else K_p_find_2 D w x (Int32.ofNat (i + 1)) f g n2 p pa s sa sw rp t z := by
        rw [L_p_find_2, h3, if_pos (jlt_t hiS (by omega)), if_neg (jout_n (by omega) (by omega)), jclamp (show i < 2147483648 by omega), jsucc]
      have e2 : K_m_found_2 D' 6 (Int32.ofNat Sc) x (Int32.ofNat i) cx mf mg mn mb ml t1 z1 = if pa (jq w) 1 i = x then some (.inl (some (.int (Int32.ofNat i))), (jXt cx (jY mf mg mn mb ml t1), z1)) else K_m_found_2 D' 6 (Int32.ofNat Sc) x (Int32.ofNat (i + 1)) cx mf mg mn mb ml t1 z1 := by
        rw [L_m_found_2, if_pos (jlt_t hiS (by omega)), hix, if_neg (jout_n (by omega) (by omega)), jclamp (show 6 + i < 2147483648 by omega), he i hiS, jsucc]
      rw [e1, e2]
      by_cases hx : pa (jq w) 1 i = x
      · rw [if_pos hx, if_pos hx]
        exact ⟨_, rfl, rfl, Or.inr ⟨i, hiS, rfl⟩⟩
      · rw [if_neg hx, if_neg hx]
        exact ih (i + 1) (by omega) (by omega)
  obtain ⟨u, a, b, c⟩ := key Sc 0 (by omega) (Nat.zero_le _)
  exact ⟨u, by rw [E_p_find]; exact a, by rw [E_m_found]; exact b, c⟩
/-- the end of the reference's line of a scare, with a fault or not -/
theorem M_scare_48 {D i Sc : Nat} {cx : jCX} {f : Nat → Int32} {g : Nat → Nat → Int32} {n : Nat → Nat → Int64} {b : Nat → Nat → Int32} {l : Nat → Int64} {t : List jE} {z : Nat × Nat × Nat × (Nat → Int32)} (hi : i < 6) (h13 : g 1 13 = Int32.ofNat Sc) : jev D 162 48 ([some (.ref 79), some (.int (Int32.ofNat (6 + i)))], []) [.int 0, .int (Int32.ofNat (6 + i)), .ref 88] ((jXt cx (jY f g n b l t), z)) = some (.inl none, (jXt cx (jY f (jup (jup g 8 (jup (g 8) (6 + i) 0)) 1 (jup (g 1) 13 (Int32.ofNat (Sc + 1)))) n b l t), z)) := by
  have hfr : K_m_fresher D 2 cx f (jup g 8 (jup (g 8) (6 + i) 0)) n b l t z = some (.inl (some (.int (Int32.ofNat Sc))), (jXt cx (jY f (jup g 8 (jup (g 8) (6 + i) 0)) n b l t), z)) := by
    have := M_fresher (D := D) (x := 2) (cx := cx) (f := f) (g := jup g 8 (jup (g 8) (6 + i) 0)) (n := n) (b := b) (l := l) (t := t) (z := z) (by omega)
    rw [jup_ne (show (1 : Nat) ≠ 8 by omega), show (11 + 2 : Nat) = 13 from rfl, h13] at this
    exact this
  have r2 : ∀ u, K_m_reads D 2 u cx f (jup g 8 (jup (g 8) (6 + i) 0)) n b l t z = _ := fun u => M_reads (x := 2) (by omega)
  rw [E_m_scareLine_48, if_neg (jout_n (by omega) (by omega)), jclamp (show 6 + i < 2147483648 by omega), hfr, jbO_some, jk_some, E_m_scareLine_54, jsucc, r2, jbO_some, jk_none, E_m_scareLine_57, jup_ne (show (1 : Nat) ≠ 8 by omega)]
theorem lH_48 {mg : Nat → Nat → Int32} {i Sc : Nat} : lH mg (jup (jup mg 8 (jup (mg 8) (6 + i) 0)) 1 (jup (mg 1) 13 (Int32.ofNat (Sc + 1)))) := by
  have a1 := lH.up (mg := mg) (k := 8) (i := 6 + i) (v := 0) (Or.inr (Or.inr (Or.inl ⟨by omega, by omega, by omega⟩)))
  have a2 := lH.up (mg := jup mg 8 (jup (mg 8) (6 + i) 0)) (k := 1) (i := 13) (v := Int32.ofNat (Sc + 1)) (Or.inl ⟨rfl, by omega⟩)
  rw [jup_ne (show (1 : Nat) ≠ 8 by omega)] at a2
  exact a1.tr a2
theorem B_scare_27 {D i Sc : Nat} {v : Int32} {cx : jCX} {f : Nat → Int32} {g : Nat → Nat → Int32} {n : Nat → Nat → Int64} {b : Nat → Nat → Int32} {l : Nat → Int64} {t : List jE} {z : Nat × Nat × Nat × (Nat → Int32)} (hb : ¬ f 9 = 0) (hi : i < 6) (h13 : g 1 13 = Int32.ofNat Sc) : ∃ g', jev D 162 27 ([some (.ref 79), some (.int (Int32.ofNat (6 + i)))], []) [.int v, .int (Int32.ofNat (6 + i)), .ref 85] ((jXt cx (jY f g n b l t), z)) = some (.inl none, (jXt cx (jY f g' n b l t), z)) ∧ lH g g' := by
  have a1 := lH.up (mg := g) (k := 5) (i := 6 + i) (v := v) (Or.inr (Or.inr (Or.inl ⟨by omega, by omega, by omega⟩)))
  have a2 := lH.up (mg := jup g 5 (jup (g 5) (6 + i) v)) (k := 6) (i := 6 + i) (v := 0) (Or.inr (Or.inr (Or.inl ⟨by omega, by omega, by omega⟩)))
  have a3 := lH.up (mg := jup (jup g 5 (jup (g 5) (6 + i) v)) 6 (jup ((jup g 5 (jup (g 5) (6 + i) v)) 6) (6 + i) 0)) (k := 7) (i := 6 + i) (v := 0) (Or.inr (Or.inr (Or.inl ⟨by omega, by omega, by omega⟩)))
  refine ⟨_, ?_, (((a1.tr a2).tr a3).tr (lH_48 (i := i) (Sc := Sc)))⟩
  rw [E_m_scareLine_27, if_neg (jout_n (by omega) (by omega)), jclamp (show 6 + i < 2147483648 by omega), B_numeral hb, jbO_some, jk_some, E_m_scareLine_35, if_neg (jout_n (by omega) (by omega)), jclamp (show 6 + i < 2147483648 by omega), B_numeral hb, jbO_some, jk_some, E_m_scareLine_43, if_neg (jout_n (by omega) (by omega)), jclamp (show 6 + i < 2147483648 by omega)]
  exact M_scare_48 hi (by simp (disch := omega) only [jup_ne]; exact h13)
theorem B_scare_35 {D i Sc : Nat} {v : Int32} {cx : jCX} {f : Nat → Int32} {g : Nat → Nat → Int32} {n : Nat → Nat → Int64} {b : Nat → Nat → Int32} {l : Nat → Int64} {t : List jE} {z : Nat × Nat × Nat × (Nat → Int32)} (hb : ¬ f 9 = 0) (hi : i < 6) (h13 : g 1 13 = Int32.ofNat Sc) : ∃ g', jev D 162 35 ([some (.ref 79), some (.int (Int32.ofNat (6 + i)))], []) [.int v, .int (Int32.ofNat (6 + i)), .ref 86] ((jXt cx (jY f g n b l t), z)) = some (.inl none, (jXt cx (jY f g' n b l t), z)) ∧ lH g g' := by
  have a2 := lH.up (mg := g) (k := 6) (i := 6 + i) (v := v) (Or.inr (Or.inr (Or.inl ⟨by omega, by omega, by omega⟩)))
  have a3 := lH.up (mg := jup g 6 (jup (g 6) (6 + i) v)) (k := 7) (i := 6 + i) (v := 0) (Or.inr (Or.inr (Or.inl ⟨by omega, by omega, by omega⟩)))
  refine ⟨_, ?_, ((a2.tr a3).tr (lH_48 (i := i) (Sc := Sc)))⟩
  rw [E_m_scareLine_35, if_neg (jout_n (by omega) (by omega)), jclamp (show 6 + i < 2147483648 by omega), B_numeral hb, jbO_some, jk_some, E_m_scareLine_43, if_neg (jout_n (by omega) (by omega)), jclamp (show 6 + i < 2147483648 by omega)]
  exact M_scare_48 hi (by simp (disch := omega) only [jup_ne]; exact h13)
theorem B_scare_43 {D i Sc : Nat} {v : Int32} {cx : jCX} {f : Nat → Int32} {g : Nat → Nat → Int32} {n : Nat → Nat → Int64} {b : Nat → Nat → Int32} {l : Nat → Int64} {t : List jE} {z : Nat × Nat × Nat × (Nat → Int32)} (hi : i < 6) (h13 : g 1 13 = Int32.ofNat Sc) : ∃ g', jev D 162 43 ([some (.ref 79), some (.int (Int32.ofNat (6 + i)))], []) [.int v, .int (Int32.ofNat (6 + i)), .ref 87] ((jXt cx (jY f g n b l t), z)) = some (.inl none, (jXt cx (jY f g' n b l t), z)) ∧ lH g g' := by
  have a3 := lH.up (mg := g) (k := 7) (i := 6 + i) (v := v) (Or.inr (Or.inr (Or.inl ⟨by omega, by omega, by omega⟩)))
  refine ⟨_, ?_, (a3.tr (lH_48 (i := i) (Sc := Sc)))⟩
  rw [E_m_scareLine_43, if_neg (jout_n (by omega) (by omega)), jclamp (show 6 + i < 2147483648 by omega)]
  exact M_scare_48 hi (by simp (disch := omega) only [jup_ne]; exact h13)
theorem B_scare_20 {D i Sc : Nat} {cx : jCX} {f : Nat → Int32} {g : Nat → Nat → Int32} {n : Nat → Nat → Int64} {b : Nat → Nat → Int32} {l : Nat → Int64} {t : List jE} {z : Nat × Nat × Nat × (Nat → Int32)} (hb : ¬ f 9 = 0) (hi : i < 6) (h13 : g 1 13 = Int32.ofNat Sc) : ∃ g', jev D 162 20 ([some (.ref 79), some (.int (Int32.ofNat (6 + i)))], []) [] ((jXt cx (jY f g n b l t), z)) = some (.inl none, (jXt cx (jY f g' n b l t), z)) ∧ lH g g' := by
  rw [E_m_scareLine_20, B_numeral hb, jbO_some, jk_some]
  exact B_scare_27 hb hi h13
theorem B_scare_17 {D i Sc : Nat} {v : Int32} {cx : jCX} {f : Nat → Int32} {g : Nat → Nat → Int32} {n : Nat → Nat → Int64} {b : Nat → Nat → Int32} {l : Nat → Int64} {t : List jE} {z : Nat × Nat × Nat × (Nat → Int32)} (hb : ¬ f 9 = 0) (hi : i < 6) (h13 : g 1 13 = Int32.ofNat Sc) : ∃ g', jev D 162 17 ([some (.ref 79), some (.int (Int32.ofNat (6 + i)))], []) [.int v, .int (Int32.ofNat (6 + i)), .ref 84] ((jXt cx (jY f g n b l t), z)) = some (.inl none, (jXt cx (jY f g' n b l t), z)) ∧ lH g g' := by
  have a1 := lH.up (mg := g) (k := 4) (i := 6 + i) (v := v) (Or.inr (Or.inr (Or.inl ⟨by omega, by omega, by omega⟩)))
  obtain ⟨g', e, hl⟩ := B_scare_20 (D := D) (i := i) (Sc := Sc) (cx := cx) (f := f) (g := jup g 4 (jup (g 4) (6 + i) v)) (n := n) (b := b) (l := l) (t := t) (z := z) hb hi (by rw [jup_ne (by omega)]; exact h13)
  refine ⟨g', ?_, a1.tr hl⟩
  rw [E_m_scareLine_17, if_neg (jout_n (by omega) (by omega)), jclamp (show 6 + i < 2147483648 by omega), B_goOn hb, jbO_some, jk_none]
  exact e
theorem B_cell {D : Nat} {cx : jCX} {f : Nat → Int32} {g : Nat → Nat → Int32} {n : Nat → Nat → Int64} {b : Nat → Nat → Int32} {l : Nat → Int64} {t : List jE} {z : Nat × Nat × Nat × (Nat → Int32)} (hb : ¬ f 9 = 0) : K_m_cellAtHand D cx f g n b l t z = some (.inl (some (.int 0)), (jXt cx (jY f g n b l t), z)) := by
  have f0 : K_m_fresher D 0 cx f g n b l t z = some (.inl (some (.int (g 1 11))), (jXt cx (jY f g n b l t), z)) := M_fresher (x := 0) (by omega)
  rw [E_m_cellAtHand, f0, jbO_some, jk_some, E_m_cellAtHand_5, B_numeral hb, jbO_some, jk_some, E_m_cellAtHand_8, if_neg hb, E_m_cellAtHand_20, if_neg hb, E_m_cellAtHand_32, if_neg hb]
theorem B_scare_11 {D i Sc : Nat} {v : Int32} {cx : jCX} {f : Nat → Int32} {g : Nat → Nat → Int32} {n : Nat → Nat → Int64} {b : Nat → Nat → Int32} {l : Nat → Int64} {t : List jE} {z : Nat × Nat × Nat × (Nat → Int32)} (hb : ¬ f 9 = 0) (hi : i < 6) (h13 : g 1 13 = Int32.ofNat Sc) : ∃ g', jev D 162 11 ([some (.ref 79), some (.int (Int32.ofNat (6 + i)))], []) [.int v, .int (Int32.ofNat (6 + i)), .ref 83] ((jXt cx (jY f g n b l t), z)) = some (.inl none, (jXt cx (jY f g' n b l t), z)) ∧ lH g g' := by
  have a1 := lH.up (mg := g) (k := 3) (i := 6 + i) (v := v) (Or.inr (Or.inr (Or.inl ⟨by omega, by omega, by omega⟩)))
  obtain ⟨g', e, hl⟩ := B_scare_17 (D := D) (i := i) (Sc := Sc) (v := 0) (cx := cx) (f := f) (g := jup g 3 (jup (g 3) (6 + i) v)) (n := n) (b := b) (l := l) (t := t) (z := z) hb hi (by rw [jup_ne (by omega)]; exact h13)
  refine ⟨g', ?_, a1.tr hl⟩
  rw [E_m_scareLine_11, if_neg (jout_n (by omega) (by omega)), jclamp (show 6 + i < 2147483648 by omega), B_cell hb, jbO_some, jk_some]
  exact e
theorem L_traits {D D' N i Sc : Nat} {f : Nat → Int32} {g : Nat → Nat → Int32} {n2 : Nat → Nat → Int64} {p : Nat → Nat → Int32} {pa : Nat → Nat → Nat → Int32} {s : Nat → Nat → Int32} {sa : Nat → Nat → Nat → Int32} {sw : Bool} {t : List jE} {z : Nat × Nat × Nat × (Nat → Int32)} {w : Bool} {cx : jCX} {mf : Nat → Int32} {mg : Nat → Nat → Int32} {mn : Nat → Nat → Int64} {mb : Nat → Nat → Int32} {ml : Nat → Int64} {t1 : List jE} {z1 : Nat × Nat × Nat × (Nat → Int32)} (h : rTok N f mf) (ht : rTp N g mg) (h9 : mf 9 = 0) (hi : i < 6) (h13 : mg 1 13 = Int32.ofNat Sc) :
    (∃ a b c f' mf', c < 10 ∧ K_r_readTraits D w (Int32.ofNat i) f g n2 p pa s sa sw t z = some (.inl (some (.int 1)), (jX f' g n2 p (jup pa (jq w) (jup (jup (jup (pa (jq w)) 3 (jup (pa (jq w) 3) i a)) 4 (jup (pa (jq w) 4) i b)) 5 (jup (pa (jq w) 5) i (Int32.ofNat c)))) s sa sw (.ref (jpl w)) t, z)) ∧
        jev D' 162 20 ([some (.ref 79), some (.int (Int32.ofNat (6 + i)))], []) [] ((jXt cx (jY mf mg mn mb ml t1), z1)) = some (.inl none, (jXt cx (jY mf' (jup (jup (jup (jup (jup mg 5 (jup (mg 5) (6 + i) a)) 6 (jup (mg 6) (6 + i) b)) 7 (jup (mg 7) (6 + i) (Int32.ofNat c))) 8 (jup (mg 8) (6 + i) 0)) 1 (jup (mg 1) 13 (Int32.ofNat (Sc + 1)))) mn mb ml t1), z1)) ∧
        rTok N f' mf' ∧ (∀ k, k < 10 ∨ 13 < k → f' k = f k) ∧ (∀ k, k < 4 ∨ 8 < k → mf' k = mf k) ∧ (f 10).toNatClampNeg ≤ (f' 10).toNatClampNeg) ∨
    (∃ f' pa' mf' mg', K_r_readTraits D w (Int32.ofNat i) f g n2 p pa s sa sw t z = some (.inl (some (.int 0)), (jX f' g n2 p pa' s sa sw (.ref (jpl w)) t, z)) ∧ jev D' 162 20 ([some (.ref 79), some (.int (Int32.ofNat (6 + i)))], []) [] ((jXt cx (jY mf mg mn mb ml t1), z1)) = some (.inl none, (jXt cx (jY mf' mg' mn mb ml t1), z1)) ∧ lF (jq w) f p pa mf mg f' p pa' mf' mg' ∧ ¬ mf' 9 = 0 ∧ f' 7 = mf' 9 ∧ f' 8 = mf' 10) := by
  have n10 : ¬ (1 : Int32) = 0 := by decide
  have u3 : ∀ (mg : Nat → Nat → Int32) (k : Nat) (v : Int32), 3 ≤ k → k ≤ 8 → lH mg (jup mg k (jup (mg k) (6 + i) v)) := fun mg k v a b => lH.up (Or.inr (Or.inr (Or.inl ⟨a, b, by omega⟩)))
  have hjo : ¬ jout (Int32.ofNat i) 6 := jout_n hi (by omega)
  have hcl : (Int32.ofNat i).toNatClampNeg = i := jclamp (by omega)
  have hjo2 : ¬ jout (Int32.ofNat (6 + i)) 12 := jout_n (by omega) (by omega)
  have hcl2 : (Int32.ofNat (6 + i)).toNatClampNeg = 6 + i := jclamp (by omega)
  rw [E_r_readTraits, E_m_scareLine_20]
  rcases L_num (D := D) (D' := D') (a := 0) (b0 := 9) (f := f) (g := g) (n2 := n2) (p := p) (pa := pa) (s := s) (sa := sa) (sw := sw) (t := t) (z := z) (w := w) (cx := cx) (mf := mf) (mg := mg) (mn := mn) (mb := mb) (ml := ml) (t1 := t1) (z1 := z1) h ht h9 (by omega) (by omega) with ⟨a, f1, mf1, -, -, a1, a2, a3, a4, a5, a6, a7⟩ | ⟨f1, mf1, a1, a3, a7, b1, b2, b3⟩
  rotate_left
  · right
    have a1' : K_r_isNumber D w 0 9 f g n2 p pa s sa sw t z = _ := a1
    have a3' : K_m_numeral D' 0 9 cx mf mg mn mb ml t1 z1 = _ := a3
    obtain ⟨g', e, hl⟩ := B_scare_27 (D := D') (i := i) (Sc := Sc) (v := Int32.ofNat 0) (cx := cx) (f := mf1) (g := mg) (n := mn) (b := mb) (l := ml) (t := t1) (z := z1) b1 hi h13
    refine ⟨f1, pa, mf1, g', ?_, ?_, (a7 _).tr (lF.up (fun _ _ => rfl) (fun _ _ => rfl) (fun _ _ => rfl) (fun _ _ => rfl) hl), b1, b2, b3⟩
    · rw [a1', jbO_some, jk_some, E_r_readTraits_4, if_pos rfl]
    · rw [a3', jbO_some, jk_some]; exact e
  have a1' : K_r_isNumber D w 0 9 f g n2 p pa s sa sw t z = _ := a1
  have a3' : K_m_numeral D' 0 9 cx mf mg mn mb ml t1 z1 = _ := a3
  have m1 : mf1 9 = 0 := by rw [a6 9 (by omega)]; exact h9
  rw [a1', jbO_some, jk_some, E_r_readTraits_4, if_neg n10, a2, jbO_some, jk_some, E_r_readTraits_13, if_neg hjo, hcl, a3', jbO_some, jk_some, E_m_scareLine_27, if_neg hjo2, hcl2]
  rcases L_num (D := D) (D' := D') (a := 0) (b0 := 9) (f := f1) (g := g) (n2 := n2) (p := p) (pa := jup pa (jq w) (jup (pa (jq w)) 3 (jup (pa (jq w) 3) i (Int32.ofNat a)))) (s := s) (sa := sa) (sw := sw) (t := t) (z := z) (w := w) (cx := cx) (mf := mf1) (mg := jup mg 5 (jup (mg 5) (6 + i) (Int32.ofNat a))) (mn := mn) (mb := mb) (ml := ml) (t1 := t1) (z1 := z1) a4 (rTp_c (jup_ne (by omega)) ht) m1 (by omega) (by omega) with ⟨b, f2, mf2, -, -, c1, c2, c3, c4, c5, c6, c7⟩ | ⟨f2, mf2, c1, c3, c7, b1, b2, b3⟩
  rotate_left
  · right
    have c1' : K_r_isNumber D w 0 9 f1 g n2 p (jup pa (jq w) (jup (pa (jq w)) 3 (jup (pa (jq w) 3) i (Int32.ofNat a)))) s sa sw t z = _ := c1
    have c3' : K_m_numeral D' 0 9 cx mf1 (jup mg 5 (jup (mg 5) (6 + i) (Int32.ofNat a))) mn mb ml t1 z1 = _ := c3
    obtain ⟨g', e, hl⟩ := B_scare_35 (D := D') (i := i) (Sc := Sc) (v := Int32.ofNat 0) (cx := cx) (f := mf2) (g := jup mg 5 (jup (mg 5) (6 + i) (Int32.ofNat a))) (n := mn) (b := mb) (l := ml) (t := t1) (z := z1) b1 hi (by rw [jup_ne (by omega)]; exact h13)
    refine ⟨f2, _, mf2, g', ?_, ?_, ((a7 _).tr (lF.up (fun _ _ => rfl) (fun _ _ => rfl) (fun j hj => jup_ne hj) (fun _ _ => rfl) (u3 mg 5 (Int32.ofNat a) (by omega) (by omega)))).tr ((c7 _).tr (lF.up (fun _ _ => rfl) (fun _ _ => rfl) (fun _ _ => rfl) (fun _ _ => rfl) hl)), b1, b2, b3⟩
    · rw [c1', jbO_some, jk_some, E_r_readTraits_18, if_pos rfl]
    · rw [c3', jbO_some, jk_some]; exact e
  have c1' : K_r_isNumber D w 0 9 f1 g n2 p (jup pa (jq w) (jup (pa (jq w)) 3 (jup (pa (jq w) 3) i (Int32.ofNat a)))) s sa sw t z = _ := c1
  have c3' : K_m_numeral D' 0 9 cx mf1 (jup mg 5 (jup (mg 5) (6 + i) (Int32.ofNat a))) mn mb ml t1 z1 = _ := c3
  have m2 : mf2 9 = 0 := by rw [c6 9 (by omega)]; exact m1
  rw [c1', jbO_some, jk_some, E_r_readTraits_18, if_neg n10, c2, jbO_some, jk_some, E_r_readTraits_27, if_neg hjo, hcl, c3', jbO_some, jk_some, E_m_scareLine_35, if_neg hjo2, hcl2, jup_same, jup_jup, jup_ne (show (4 : Nat) ≠ 3 by omega), jup_ne (show (6 : Nat) ≠ 5 by omega)]
  rcases L_num (D := D) (D' := D') (a := 0) (b0 := 9) (f := f2) (g := g) (n2 := n2) (p := p) (pa := jup pa (jq w) (jup (jup (pa (jq w)) 3 (jup (pa (jq w) 3) i (Int32.ofNat a))) 4 (jup (pa (jq w) 4) i (Int32.ofNat b)))) (s := s) (sa := sa) (sw := sw) (t := t) (z := z) (w := w) (cx := cx) (mf := mf2) (mg := jup (jup mg 5 (jup (mg 5) (6 + i) (Int32.ofNat a))) 6 (jup (mg 6) (6 + i) (Int32.ofNat b))) (mn := mn) (mb := mb) (ml := ml) (t1 := t1) (z1 := z1) c4 (rTp_c (by rw [jup_ne (by omega), jup_ne (by omega)]) ht) m2 (by omega) (by omega) with ⟨c, f3, mf3, -, hc9, d1, d2, d3, d4, d5, d6, d7⟩ | ⟨f3, mf3, d1, d3, d7, b1, b2, b3⟩
  rotate_left
  · right
    have d1' : K_r_isNumber D w 0 9 f2 g n2 p (jup pa (jq w) (jup (jup (pa (jq w)) 3 (jup (pa (jq w) 3) i (Int32.ofNat a))) 4 (jup (pa (jq w) 4) i (Int32.ofNat b)))) s sa sw t z = _ := d1
    have d3' : K_m_numeral D' 0 9 cx mf2 (jup (jup mg 5 (jup (mg 5) (6 + i) (Int32.ofNat a))) 6 (jup (mg 6) (6 + i) (Int32.ofNat b))) mn mb ml t1 z1 = _ := d3
    obtain ⟨g', e, hl⟩ := B_scare_43 (D := D') (i := i) (Sc := Sc) (v := Int32.ofNat 0) (cx := cx) (f := mf3) (g := jup (jup mg 5 (jup (mg 5) (6 + i) (Int32.ofNat a))) 6 (jup (mg 6) (6 + i) (Int32.ofNat b))) (n := mn) (b := mb) (l := ml) (t := t1) (z := z1) hi (by rw [jup_ne (by omega), jup_ne (by omega)]; exact h13)
    have w2 := u3 (jup mg 5 (jup (mg 5) (6 + i) (Int32.ofNat a))) 6 (Int32.ofNat b) (by omega) (by omega)
    rw [jup_ne (show (6 : Nat) ≠ 5 by omega)] at w2
    refine ⟨f3, _, mf3, g', ?_, ?_, (((a7 _).tr (lF.up (fun _ _ => rfl) (fun _ _ => rfl) (fun j hj => jup_ne hj) (fun _ _ => rfl) (u3 mg 5 (Int32.ofNat a) (by omega) (by omega)))).tr ((c7 _).tr (lF.up (fun _ _ => rfl) (fun _ _ => rfl) (fun j hj => by rw [jup_ne hj, jup_ne hj]) (fun _ _ => rfl) w2))).tr ((d7 _).tr (lF.up (fun _ _ => rfl) (fun _ _ => rfl) (fun _ _ => rfl) (fun _ _ => rfl) hl)), b1, b2, b3⟩
    · rw [d1', jbO_some, jk_some, E_r_readTraits_32, if_pos rfl]
    · rw [d3', jbO_some, jk_some]; exact e
  left
  have d1' : K_r_isNumber D w 0 9 f2 g n2 p (jup pa (jq w) (jup (jup (pa (jq w)) 3 (jup (pa (jq w) 3) i (Int32.ofNat a))) 4 (jup (pa (jq w) 4) i (Int32.ofNat b)))) s sa sw t z = _ := d1
  have d3' : K_m_numeral D' 0 9 cx mf2 (jup (jup mg 5 (jup (mg 5) (6 + i) (Int32.ofNat a))) 6 (jup (mg 6) (6 + i) (Int32.ofNat b))) mn mb ml t1 z1 = _ := d3
  refine ⟨Int32.ofNat a, Int32.ofNat b, c, f3, mf3, by omega, ?_, ?_, d4, fun k hk => by rw [d5 k hk, c5 k hk, a5 k hk], fun k hk => by rw [d6 k hk, c6 k hk, a6 k hk], Nat.le_trans (Nat.le_trans (a7 0).2.2.2.2.1 (c7 0).2.2.2.2.1) (d7 0).2.2.2.2.1⟩
  · rw [d1', jbO_some, jk_some, E_r_readTraits_32, if_neg n10, d2, jbO_some, jk_some, E_r_readTraits_41, if_neg hjo, hcl, jup_same, jup_jup, jup_ne (show (5 : Nat) ≠ 4 by omega), jup_ne (show (5 : Nat) ≠ 3 by omega)]
  · have e48 := M_scare_48 (D := D') (i := i) (Sc := Sc) (cx := cx) (f := mf3) (g := jup (jup (jup mg 5 (jup (mg 5) (6 + i) (Int32.ofNat a))) 6 (jup (mg 6) (6 + i) (Int32.ofNat b))) 7 (jup (mg 7) (6 + i) (Int32.ofNat c))) (n := mn) (b := mb) (l := ml) (t := t1) (z := z1) hi (by rw [jup_ne (by omega), jup_ne (by omega), jup_ne (by omega)]; exact h13)
    rw [d3', jbO_some, jk_some, E_m_scareLine_43, if_neg hjo2, hcl2, jup_ne (show (7 : Nat) ≠ 6 by omega), jup_ne (show (7 : Nat) ≠ 5 by omega), e48]
    simp (disch := omega) only [jup_ne]
