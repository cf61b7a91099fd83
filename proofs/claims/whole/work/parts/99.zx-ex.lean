-- READING AN E: either
theorem X_either_8 {D D' N r a0 op kc0 : Nat} {g : Nat → Nat → Int32} {n2 : Nat → Nat → Int64} {s : Nat → Nat → Int32} {sa : Nat → Nat → Nat → Int32} {sw : Bool} {t : List jE} {z : Nat × Nat × Nat × (Nat → Int32)} {w : Bool} {cx : jCX} {mn : Nat → Nat → Int64} {mb : Nat → Nat → Int32} {ml : Nat → Int64} {t1 : List jE} {z1 : Nat × Nat × Nat × (Nat → Int32)}
    (HS : ∀ (f : Nat → Int32) (p : Nat → Nat → Int32) (pa : Nat → Nat → Nat → Int32) (mf : Nat → Int32) (mg : Nat → Nat → Int32) (kc nd d : Nat), kc0 ≤ kc → rEx N r a0 op kc nd d g f (p (jq w)) (pa (jq w)) mf mg → ((∃ f' p' pa' mf' mg' kc' nd', K_r_readAll D w (Int32.ofNat op) f g n2 p pa s sa sw t z = some (.inl (some (.int 1)), (jX f' g n2 p' pa' s sa sw (.ref (jpl w)) t, z)) ∧ K_m_conjunction D' cx mf mg mn mb ml t1 z1 = some (.inl none, (jXt cx (jY mf' mg' mn mb ml t1), z1)) ∧ xF r a0 (jq w) f p pa mf mg f' p' pa' mf' mg' ∧ rEx N r a0 (op) kc' nd' (d + 1) g f' (p' (jq w)) (pa' (jq w)) mf' mg' ∧ kc' + nd = kc + nd' ∧ kc ≤ kc') ∨ (∃ f' p' pa' mf' mg', K_r_readAll D w (Int32.ofNat op) f g n2 p pa s sa sw t z = some (.inl (some (.int 0)), (jX f' g n2 p' pa' s sa sw (.ref (jpl w)) t, z)) ∧ K_m_conjunction D' cx mf mg mn mb ml t1 z1 = some (.inl none, (jXt cx (jY mf' mg' mn mb ml t1), z1)) ∧ xF r a0 (jq w) f p pa mf mg f' p' pa' mf' mg' ∧ ¬ mf' 9 = 0 ∧ f' 7 = mf' 9 ∧ f' 8 = mf' 10)))
    (HB : ∀ (mf : Nat → Int32) (mg : Nat → Nat → Int32), ¬ mf 9 = 0 → K_m_conjunction D' cx mf mg mn mb ml t1 z1 = some (.inl none, (jXt cx (jY mf mg mn mb ml t1), z1))) :
    ∀ (c : Nat) (f : Nat → Int32) (p : Nat → Nat → Int32) (pa : Nat → Nat → Nat → Int32) (mf : Nat → Int32) (mg : Nat → Nat → Int32) (kc nd d m : Nat), 64 - kc ≤ c → kc0 ≤ kc → m ≤ kc → rEx N r a0 op kc nd (d + 1) g f (p (jq w)) (pa (jq w)) mf mg →
      ((∃ f' p' pa' mf' mg' kc' nd', K_r_readEither_8 (D + 1) w (Int32.ofNat op) (Int32.ofNat m) f g n2 p pa s sa sw t z = some (.inl (some (.int 1)), (jX f' g n2 p' pa' s sa sw (.ref (jpl w)) t, z)) ∧ K_m_expression_2 (D' + 1) cx mf mg mn mb ml t1 z1 = some (.inl none, (jXt cx (jY mf' mg' mn mb ml t1), z1)) ∧ xF r a0 (jq w) f p pa mf mg f' p' pa' mf' mg' ∧ rEx N r a0 (op) kc' nd' (d + 1) g f' (p' (jq w)) (pa' (jq w)) mf' mg' ∧ kc' + nd = kc + nd' ∧ kc ≤ kc') ∨ (∃ f' p' pa' mf' mg', K_r_readEither_8 (D + 1) w (Int32.ofNat op) (Int32.ofNat m) f g n2 p pa s sa sw t z = some (.inl (some (.int 0)), (jX f' g n2 p' pa' s sa sw (.ref (jpl w)) t, z)) ∧ K_m_expression_2 (D' + 1) cx mf mg mn mb ml t1 z1 = some (.inl none, (jXt cx (jY mf' mg' mn mb ml t1), z1)) ∧ xF r a0 (jq w) f p pa mf mg f' p' pa' mf' mg' ∧ ¬ mf' 9 = 0 ∧ f' 7 = mf' 9 ∧ f' 8 = mf' 10)) := by
  intro c
  induction c with
  | zero =>
    intro f p pa mf mg kc nd d m hc hk0 hm h
    have h0 := h
    obtain ⟨h1, h2, h3, ⟨h4, hr⟩, ⟨h5, h5', h5''⟩, ⟨h6, h6', h6''⟩, h7, h8', ⟨h9, h9'⟩⟩ := h
    have n10 : ¬ (1 : Int32) = 0 := by decide
    have h64 : ¬ (64 : Int32) < Int32.ofNat m := jlt_n (a := 64) (by omega) (by omega)
    have hA := tk_word h1.2.2 (x := 12) (by decide)
    have hjb : ¬ (3 : Int32) = 0 ∧ ¬ (3 : Int32) = 1 ∧ ¬ (3 : Int32) = 2 := by decide
    have hjt : jtr 3 0 2 262 := Or.inr (Or.inr (Or.inr ⟨rfl, by unfold jtb; decide⟩))
    by_cases hs : f 11 = 4 ∧ f 12 = 12
    rotate_left
    · left
      refine ⟨f, p, pa, mf, mg, kc, nd, ?_, ?_, xF.rf, h0, rfl, Nat.le_refl kc⟩
      · rw [L_r_readEither_8, if_neg h64, S_k_isWord, if_neg hs, jbO_some, jk_some, E_r_readEither_15, if_pos rfl]
      · rw [L_m_expression_2, M_isWord, if_neg (fun q : mf 9 = 0 ∧ mf 7 = 0 ∧ mf 8 = 13 => hs (hA.mpr q.2)), jbO_some, jk_some, E_m_expression_5, if_pos rfl]
    have hcl : K_r_readEither_8 (D + 1) w (Int32.ofNat op) (Int32.ofNat m) f g n2 p pa s sa sw t z = jbO (K_r_takeKnot (D + 1) w f g n2 p pa s sa sw t z) (jk (D + 1) 66 18 ([some (.ref 1), some (.int (Int32.ofNat op)), some (.int (Int32.ofNat m))], []) []) := by
      rw [L_r_readEither_8, if_neg h64, S_k_isWord, if_pos hs, jbO_some, jk_some, E_r_readEither_15, if_neg n10]
    have hml : K_m_expression_2 (D' + 1) cx mf mg mn mb ml t1 z1 = jbO (K_m_knot (D' + 1) cx mf mg mn mb ml t1 z1) (jk (D' + 1) 167 8 ([some (.ref 79)], []) []) := by
      rw [L_m_expression_2, M_isWord, if_pos (⟨h3, hA.mp hs⟩ : mf 9 = 0 ∧ mf 7 = 0 ∧ mf 8 = 13), jbO_some, jk_some, E_m_expression_5, if_neg n10]
    rw [hcl, hml]
    rcases X_knot (D := D + 1) (D' := D' + 1) (f := f) (g := g) (n2 := n2) (p := p) (pa := pa) (s := s) (sa := sa) (sw := sw) (t := t) (z := z) (w := w) (cx := cx) (mf := mf) (mg := mg) (mn := mn) (mb := mb) (ml := ml) (t1 := t1) (z1 := z1) h0 with ⟨f1, p1, mfa, mf1, k1, k2, k3, F1, k4⟩ | ⟨f1, mf1, k1, k2, F1, b1, b2, b3⟩
    rotate_left
    · right
      refine ⟨f1, p, pa, mf1, mg, ?_, ?_, F1, b1, b2, b3⟩
      · rw [k1, jbO_some, jk_some, E_r_readEither_18, if_pos rfl]
      · rw [k2, jbO_some, jk_none, E_m_expression_8, B_goOn b1, jbO_some, jk_none, E_m_expression_10, HB _ _ b1, jbO_some, jk_none, E_m_expression_12, B_puts b1, jbO_some, jk_none, E_m_expression_16, B_expression_2 b1]
    have hkc1 := k4.2.2.2.2.1.2.2
    omega
  | succ c ih =>
    intro f p pa mf mg kc nd d m hc hk0 hm h
    have h0 := h
    obtain ⟨h1, h2, h3, ⟨h4, hr⟩, ⟨h5, h5', h5''⟩, ⟨h6, h6', h6''⟩, h7, h8', ⟨h9, h9'⟩⟩ := h
    have n10 : ¬ (1 : Int32) = 0 := by decide
    have h64 : ¬ (64 : Int32) < Int32.ofNat m := jlt_n (a := 64) (by omega) (by omega)
    have hA := tk_word h1.2.2 (x := 12) (by decide)
    have hjb : ¬ (3 : Int32) = 0 ∧ ¬ (3 : Int32) = 1 ∧ ¬ (3 : Int32) = 2 := by decide
    have hjt : jtr 3 0 2 262 := Or.inr (Or.inr (Or.inr ⟨rfl, by unfold jtb; decide⟩))
    by_cases hs : f 11 = 4 ∧ f 12 = 12
    rotate_left
    · left
      refine ⟨f, p, pa, mf, mg, kc, nd, ?_, ?_, xF.rf, h0, rfl, Nat.le_refl kc⟩
      · rw [L_r_readEither_8, if_neg h64, S_k_isWord, if_neg hs, jbO_some, jk_some, E_r_readEither_15, if_pos rfl]
      · rw [L_m_expression_2, M_isWord, if_neg (fun q : mf 9 = 0 ∧ mf 7 = 0 ∧ mf 8 = 13 => hs (hA.mpr q.2)), jbO_some, jk_some, E_m_expression_5, if_pos rfl]
    have hcl : K_r_readEither_8 (D + 1) w (Int32.ofNat op) (Int32.ofNat m) f g n2 p pa s sa sw t z = jbO (K_r_takeKnot (D + 1) w f g n2 p pa s sa sw t z) (jk (D + 1) 66 18 ([some (.ref 1), some (.int (Int32.ofNat op)), some (.int (Int32.ofNat m))], []) []) := by
      rw [L_r_readEither_8, if_neg h64, S_k_isWord, if_pos hs, jbO_some, jk_some, E_r_readEither_15, if_neg n10]
    have hml : K_m_expression_2 (D' + 1) cx mf mg mn mb ml t1 z1 = jbO (K_m_knot (D' + 1) cx mf mg mn mb ml t1 z1) (jk (D' + 1) 167 8 ([some (.ref 79)], []) []) := by
      rw [L_m_expression_2, M_isWord, if_pos (⟨h3, hA.mp hs⟩ : mf 9 = 0 ∧ mf 7 = 0 ∧ mf 8 = 13), jbO_some, jk_some, E_m_expression_5, if_neg n10]
    rw [hcl, hml]
    rcases X_knot (D := D + 1) (D' := D' + 1) (f := f) (g := g) (n2 := n2) (p := p) (pa := pa) (s := s) (sa := sa) (sw := sw) (t := t) (z := z) (w := w) (cx := cx) (mf := mf) (mg := mg) (mn := mn) (mb := mb) (ml := ml) (t1 := t1) (z1 := z1) h0 with ⟨f1, p1, mfa, mf1, k1, k2, k3, F1, k4⟩ | ⟨f1, mf1, k1, k2, F1, b1, b2, b3⟩
    rotate_left
    · right
      refine ⟨f1, p, pa, mf1, mg, ?_, ?_, F1, b1, b2, b3⟩
      · rw [k1, jbO_some, jk_some, E_r_readEither_18, if_pos rfl]
      · rw [k2, jbO_some, jk_none, E_m_expression_8, B_goOn b1, jbO_some, jk_none, E_m_expression_10, HB _ _ b1, jbO_some, jk_none, E_m_expression_12, B_puts b1, jbO_some, jk_none, E_m_expression_16, B_expression_2 b1]
    rw [k1, jbO_some, jk_some, E_r_readEither_18, if_neg n10, k2, jbO_some, jk_none, E_m_expression_8, k3, jbO_some, jk_none, E_m_expression_10]
    have hkc1 := k4.2.2.2.2.1.2.2
    rcases HS f1 p1 pa mf1 mg (kc + 1) nd (d + 1) (by omega) k4 with ⟨f2, p2, pa2, mf2, mg2, kc2, nd2, i1, i2, F2, i4, i5, i6⟩ | ⟨f2, p2, pa2, mf2, mg2, i1, i2, F2, b1, b2, b3⟩
    rotate_left
    · right
      refine ⟨f2, p2, pa2, mf2, mg2, ?_, ?_, F1.tr F2, b1, b2, b3⟩
      · rw [i1, jbO_some, jk_some, E_r_readEither_22, if_pos rfl]
      · rw [i2, jbO_some, jk_none, E_m_expression_12, B_puts b1, jbO_some, jk_none, E_m_expression_16, B_expression_2 b1]
    obtain ⟨p3, pa3, mg3, e1, e2, F3, e4⟩ := X_emit (D := D + 1) (D' := D' + 1) (d' := d + 1) (k := 3) (v := 0) (ms := 2) (mv := 262) (f := f2) (g := g) (n2 := n2) (p := p2) (pa := pa2) (s := s) (sa := sa) (sw := sw) (t := t) (z := z) (w := w) (cx := cx) (mf := mf2) (mg := mg2) (mn := mn) (mb := mb) (ml := ml) (t1 := t1) (z1 := z1) i4 (by omega) hjt (by
      intro kd vl hj hkd hvl
      unfold jdp; rw [hj]; dsimp only; rw [hkd, if_neg hjb.1, if_neg hjb.2.1, if_neg hjb.2.2, if_neg (by omega)]; rfl)
    have hkc2 := i4.2.2.2.2.1.2.2
    have hm2 := i4.2.2.2.2.2.1
    rw [i1, jbO_some, jk_some, E_r_readEither_22, if_neg n10, e1 f2 i4.2.2.2.1.1, jbO_some, jk_some, E_r_readEither_27, if_neg n10, jsucc, i2, jbO_some, jk_none, E_m_expression_12, e2 mf2 i4.2.2.1, jbO_some, jk_none, E_m_expression_16]
    rcases ih f2 p3 pa3 mf2 mg3 kc2 (nd2 + 1) d (m + 1) (by omega) (by omega) (by omega) e4 with ⟨f4, p4, pa4, mf4, mg4, kc4, nd4, l1, l2, F4, l4, l5, l6⟩ | ⟨f4, p4, pa4, mf4, mg4, l1, l2, F4, b1, b2, b3⟩
    · left
      exact ⟨f4, p4, pa4, mf4, mg4, kc4, nd4, l1, l2, ((F1.tr F2).tr F3).tr F4, l4, by omega, by omega⟩
    · right
      exact ⟨f4, p4, pa4, mf4, mg4, l1, l2, ((F1.tr F2).tr F3).tr F4, b1, b2, b3⟩
theorem X_either {D D' N r a0 op kc nd d : Nat} {f : Nat → Int32} {g : Nat → Nat → Int32} {n2 : Nat → Nat → Int64} {p : Nat → Nat → Int32} {pa : Nat → Nat → Nat → Int32} {s : Nat → Nat → Int32} {sa : Nat → Nat → Nat → Int32} {sw : Bool} {t : List jE} {z : Nat × Nat × Nat × (Nat → Int32)} {w : Bool} {cx : jCX} {mf : Nat → Int32} {mg : Nat → Nat → Int32} {mn : Nat → Nat → Int64} {mb : Nat → Nat → Int32} {ml : Nat → Int64} {t1 : List jE} {z1 : Nat × Nat × Nat × (Nat → Int32)} (h : rEx N r a0 op kc nd d g f (p (jq w)) (pa (jq w)) mf mg)
    (HS : ∀ (f : Nat → Int32) (p : Nat → Nat → Int32) (pa : Nat → Nat → Nat → Int32) (mf : Nat → Int32) (mg : Nat → Nat → Int32) (kc1 nd d : Nat), kc ≤ kc1 → rEx N r a0 op kc1 nd d g f (p (jq w)) (pa (jq w)) mf mg → ((∃ f' p' pa' mf' mg' kc' nd', K_r_readAll D w (Int32.ofNat op) f g n2 p pa s sa sw t z = some (.inl (some (.int 1)), (jX f' g n2 p' pa' s sa sw (.ref (jpl w)) t, z)) ∧ K_m_conjunction D' cx mf mg mn mb ml t1 z1 = some (.inl none, (jXt cx (jY mf' mg' mn mb ml t1), z1)) ∧ xF r a0 (jq w) f p pa mf mg f' p' pa' mf' mg' ∧ rEx N r a0 (op) kc' nd' (d + 1) g f' (p' (jq w)) (pa' (jq w)) mf' mg' ∧ kc' + nd = kc1 + nd' ∧ kc1 ≤ kc') ∨ (∃ f' p' pa' mf' mg', K_r_readAll D w (Int32.ofNat op) f g n2 p pa s sa sw t z = some (.inl (some (.int 0)), (jX f' g n2 p' pa' s sa sw (.ref (jpl w)) t, z)) ∧ K_m_conjunction D' cx mf mg mn mb ml t1 z1 = some (.inl none, (jXt cx (jY mf' mg' mn mb ml t1), z1)) ∧ xF r a0 (jq w) f p pa mf mg f' p' pa' mf' mg' ∧ ¬ mf' 9 = 0 ∧ f' 7 = mf' 9 ∧ f' 8 = mf' 10)))
    (HB : ∀ (mf : Nat → Int32) (mg : Nat → Nat → Int32), ¬ mf 9 = 0 → K_m_conjunction D' cx mf mg mn mb ml t1 z1 = some (.inl none, (jXt cx (jY mf mg mn mb ml t1), z1))) :
    ((∃ f' p' pa' mf' mg' kc' nd', K_r_readEither (D + 1) w (Int32.ofNat op) f g n2 p pa s sa sw t z = some (.inl (some (.int 1)), (jX f' g n2 p' pa' s sa sw (.ref (jpl w)) t, z)) ∧ K_m_expression (D' + 1) cx mf mg mn mb ml t1 z1 = some (.inl none, (jXt cx (jY mf' mg' mn mb ml t1), z1)) ∧ xF r a0 (jq w) f p pa mf mg f' p' pa' mf' mg' ∧ rEx N r a0 (op) kc' nd' (d + 1) g f' (p' (jq w)) (pa' (jq w)) mf' mg' ∧ kc' + nd = kc + nd' ∧ kc ≤ kc') ∨ (∃ f' p' pa' mf' mg', K_r_readEither (D + 1) w (Int32.ofNat op) f g n2 p pa s sa sw t z = some (.inl (some (.int 0)), (jX f' g n2 p' pa' s sa sw (.ref (jpl w)) t, z)) ∧ K_m_expression (D' + 1) cx mf mg mn mb ml t1 z1 = some (.inl none, (jXt cx (jY mf' mg' mn mb ml t1), z1)) ∧ xF r a0 (jq w) f p pa mf mg f' p' pa' mf' mg' ∧ ¬ mf' 9 = 0 ∧ f' 7 = mf' 9 ∧ f' 8 = mf' 10)) := by
  have n10 : ¬ (1 : Int32) = 0 := by decide
  rw [E_r_readEither, E_m_expression]
  rcases HS f p pa mf mg kc nd d (Nat.le_refl kc) h with ⟨f2, p2, pa2, mf2, mg2, kc2, nd2, i1, i2, F2, i4, i5, i6⟩ | ⟨f2, p2, pa2, mf2, mg2, i1, i2, F2, b1, b2, b3⟩
  rotate_left
  · right
    refine ⟨f2, p2, pa2, mf2, mg2, ?_, ?_, F2, b1, b2, b3⟩
    · rw [i1, jbO_some, jk_some, E_r_readEither_3, if_pos rfl]
    · rw [i2, jbO_some, jk_none, F_m_expression_2, B_expression_2 b1]
  rw [i1, jbO_some, jk_some, E_r_readEither_3, if_neg n10, i2, jbO_some, jk_none, F_m_expression_2]
  rcases X_either_8 HS HB (64 - kc2) f2 p2 pa2 mf2 mg2 kc2 nd2 d 0 (Nat.le_refl _) i6 (Nat.zero_le _) i4 with ⟨f4, p4, pa4, mf4, mg4, kc4, nd4, l1, l2, F4, l4, l5, l6⟩ | ⟨f4, p4, pa4, mf4, mg4, l1, l2, F4, b1, b2, b3⟩
  · left
    exact ⟨f4, p4, pa4, mf4, mg4, kc4, nd4, l1, l2, F2.tr F4, l4, by omega, by omega⟩
  · right
    exact ⟨f4, p4, pa4, mf4, mg4, l1, l2, F2.tr F4, b1, b2, b3⟩
