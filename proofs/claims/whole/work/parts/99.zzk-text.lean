-- TEXT: the lines, one behind another
set_option maxRecDepth 20000 in
theorem E_c_text_52b {D : Nat} {d1 : Option Value} {f : Nat → Int32} {g : Nat → Nat → Int32} {n2 : Nat → Nat → Int64} {p : Nat → Nat → Int32} {pa : Nat → Nat → Nat → Int32} {s : Nat → Nat → Int32} {sa : Nat → Nat → Nat → Int32} {sw : Bool} {t : List jE} {z : Nat × Nat × Nat × (Nat → Int32)} : jev D 102 52 ([some (.ref 0), d1, some (.ref (jpl sw))], []) [] ((jX f g n2 p pa s sa sw (.ref (jpl sw)) t, z)) = jbO (K_n_clear D f g n2 p pa s sa sw (.ref (jpl sw)) t z) (jk D 102 55 ([some (.ref 0), d1, some (.ref (jpl sw))], []) []) := by
  cases sw
  · refine (jev_blk 2 (pc' := 54) (L' := ([some (.ref 0), d1, some (.ref (jpl false))], [])) (S' := [.ref 71]) (h' := (jX f g n2 p pa s sa false (.ref (jpl false)) t, z)) rfl).trans ?_
    exact jev_callb (nx := 55) (rest := []) rfl
  · refine (jev_blk 2 (pc' := 54) (L' := ([some (.ref 0), d1, some (.ref (jpl true))], [])) (S' := [.ref 71]) (h' := (jX f g n2 p pa s sa true (.ref (jpl true)) t, z)) rfl).trans ?_
    exact jev_callb (nx := 55) (rest := []) rfl
set_option maxRecDepth 20000 in
theorem E_c_text_55b {D : Nat} {d1 : Option Value} {f : Nat → Int32} {g : Nat → Nat → Int32} {n2 : Nat → Nat → Int64} {p : Nat → Nat → Int32} {pa : Nat → Nat → Nat → Int32} {s : Nat → Nat → Int32} {sa : Nat → Nat → Nat → Int32} {sw : Bool} {t : List jE} {z : Nat × Nat × Nat × (Nat → Int32)} : jev D 102 55 ([some (.ref 0), d1, some (.ref (jpl sw))], []) [] ((jX f g n2 p pa s sa sw (.ref (jpl sw)) t, z)) = some (.inl (some (.int (p (jq sw) 0))), (jX (jup (jup f 1 0) 23 0) g n2 p pa s sa sw (.ref (jpl sw)) t, z)) := by
  cases sw
  · refine (jev_blk 9 (pc' := 64) (L' := ([some (.ref 0), d1, some (.ref (jpl false))], [])) (S' := [.int (p (jq false) 0)]) (h' := (jX (jup (jup f 1 (0)) 23 (0)) g n2 p pa s sa false (.ref (jpl false)) t, z)) rfl).trans ?_
    exact jev_fin rfl
  · refine (jev_blk 9 (pc' := 64) (L' := ([some (.ref 0), d1, some (.ref (jpl true))], [])) (S' := [.int (p (jq true) 0)]) (h' := (jX (jup (jup f 1 (0)) 23 (0)) g n2 p pa s sa true (.ref (jpl true)) t, z)) rfl).trans ?_
    exact jev_fin rfl
theorem tk_end {kd vl so va : Int32} (h : rTk kd vl so va) : kd = 0 ↔ so = 4 := by
  rcases h with ⟨h1, h2⟩ | ⟨h1, h2⟩ | ⟨h1, h2, -⟩ | ⟨h1, h2, -⟩ | ⟨h1, h2, -⟩ | ⟨h1, h2, -⟩ <;> subst h1 h2 <;> decide
theorem L_loop {D D' N : Nat} {d1 e1 e2 : Option Value} {g : Nat → Nat → Int32} {n2 : Nat → Nat → Int64} {s : Nat → Nat → Int32} {sa : Nat → Nat → Nat → Int32} {sw : Bool} {t : List jE} {z : Nat × Nat × Nat × (Nat → Int32)} {cx : jCX} {mn : Nat → Nat → Int64} {mb : Nat → Nat → Int32} {ml : Nat → Int64} {t1 : List jE} {z1 : Nat × Nat × Nat × (Nat → Int32)} (hD : 63 ≤ D) (hD' : 119 ≤ D') :
    ∀ (c : Nat) (f : Nat → Int32) (p : Nat → Nat → Int32) (pa : Nat → Nat → Nat → Int32) (mf : Nat → Int32) (mg : Nat → Nat → Int32) (x2 : Nat), jmu N f ≤ c → x2 + c ≤ 700 → rLn N g f (p (jq (!sw))) (pa (jq (!sw))) mf mg →
      (∃ f' p' pa' mf' mg' d2, K_c_text_19 D d1 (Int32.ofNat x2) f g n2 p pa s sa sw (.ref (jpl (!sw))) t z = K_c_text_34 D d1 d2 f' g n2 p' pa' s sa sw (.ref (jpl (!sw))) t z ∧ K_m_text_102 D' e1 e2 cx mf mg mn mb ml t1 z1 = K_m_text_112 D' e1 e2 cx mf' mg' mn mb ml t1 z1 ∧ lF (jq (!sw)) f p pa mf mg f' p' pa' mf' mg' ∧ rLn N g f' (p' (jq (!sw))) (pa' (jq (!sw))) mf' mg') ∨
      (∃ f' p' pa' mf' mg', K_c_text_19 D d1 (Int32.ofNat x2) f g n2 p pa s sa sw (.ref (jpl (!sw))) t z = some (.inl (some (.int (-1))), (jX f' g n2 p' pa' s sa sw (.ref (jpl (!sw))) t, z)) ∧ K_m_text_102 D' e1 e2 cx mf mg mn mb ml t1 z1 = K_m_text_112 D' e1 e2 cx mf' mg' mn mb ml t1 z1 ∧ lF (jq (!sw)) f p pa mf mg f' p' pa' mf' mg' ∧ ¬ mf' 9 = 0 ∧ f' 7 = mf' 9 ∧ f' 8 = mf' 10) := by
  have n10 : ¬ (1 : Int32) = 0 := by decide
  have hend : ∀ (f : Nat → Int32) (p : Nat → Nat → Int32) (pa : Nat → Nat → Nat → Int32) (mf : Nat → Int32) (mg : Nat → Nat → Int32) (x2 : Nat), x2 ≤ 700 → f 11 = 0 → rLn N g f (p (jq (!sw))) (pa (jq (!sw))) mf mg →
      (∃ f' p' pa' mf' mg' d2, K_c_text_19 D d1 (Int32.ofNat x2) f g n2 p pa s sa sw (.ref (jpl (!sw))) t z = K_c_text_34 D d1 d2 f' g n2 p' pa' s sa sw (.ref (jpl (!sw))) t z ∧ K_m_text_102 D' e1 e2 cx mf mg mn mb ml t1 z1 = K_m_text_112 D' e1 e2 cx mf' mg' mn mb ml t1 z1 ∧ lF (jq (!sw)) f p pa mf mg f' p' pa' mf' mg' ∧ rLn N g f' (p' (jq (!sw))) (pa' (jq (!sw))) mf' mg') := by
    intro f p pa mf mg x2 hx h11 h
    obtain ⟨W, H, Sc, fl, Wn, kn, cr, h1, h2, h3, -⟩ := id h
    refine ⟨f, p, pa, mf, mg, some (.int (Int32.ofNat x2)), ?_, ?_, lF.rf, h⟩
    · rw [L_c_text_19]
      by_cases q : x2 < 700
      · rw [if_pos (show Int32.ofNat x2 < 700 from jlt_t (b := 700) q (by omega)), E_r_atEnd, if_pos h11, jbO_some, jk_some, E_c_text_25, if_neg n10]
      · rw [if_neg (show ¬ Int32.ofNat x2 < 700 from jlt_n (b := 700) (by omega) (by omega))]
    · rw [L_m_text_102, if_pos h3, if_pos ((tk_end h1.2.2).mp h11)]
  intro c
  induction c with
  | zero =>
    intro f p pa mf mg x2 hc hx h
    left
    refine hend f p pa mf mg x2 (by omega) ?_ h
    unfold jmu at hc
    by_cases q : f 11 = 0
    · exact q
    · rw [if_neg q] at hc; omega
  | succ c ih =>
    intro f p pa mf mg x2 hc hx h
    by_cases q : f 11 = 0
    · left; exact hend f p pa mf mg x2 (by omega) q h
    obtain ⟨W, H, Sc, fl, Wn, kn, cr, h1, h2, h3, -⟩ := id h
    have hne : ¬ mf 7 = 4 := fun r => q ((tk_end h1.2.2).mpr r)
    have hcl : K_c_text_19 D d1 (Int32.ofNat x2) f g n2 p pa s sa sw (.ref (jpl (!sw))) t z = jbO (K_r_readLine D (!sw) f g n2 p pa s sa sw t z) (jk D 102 29 ([some (.ref 0), d1, some (.int (Int32.ofNat x2))], []) []) := by
      rw [L_c_text_19, if_pos (show Int32.ofNat x2 < 700 from jlt_t (b := 700) (by omega) (by omega)), E_r_atEnd, if_neg q, jbO_some, jk_some, E_c_text_25, if_pos rfl]
    have hml : K_m_text_102 D' e1 e2 cx mf mg mn mb ml t1 z1 = jbO (K_m_line D' cx mf mg mn mb ml t1 z1) (jk D' 174 111 ([some (.ref 79), e1, e2], []) []) := by
      rw [L_m_text_102, if_pos h3, if_neg hne]
    have hjm : jmu N f = N - (f 10).toNatClampNeg + 1 := by unfold jmu; rw [if_neg q]
    rw [hcl, hml]
    rcases L_line (D := D) (D' := D') (n2 := n2) (s := s) (sa := sa) (sw := sw) (w := !sw) (t := t) (z := z) (cx := cx) (mn := mn) (mb := mb) (ml := ml) (t1 := t1) (z1 := z1) hD hD' h with ⟨f1, p1, pa1, mf1, mg1, a1, a2, a3, a4, a5⟩ | ⟨f1, p1, pa1, mf1, mg1, a1, a2, a3, b1, b2, b3⟩
    rotate_left
    · right
      refine ⟨f1, p1, pa1, mf1, mg1, ?_, ?_, a3, b1, b2, b3⟩
      · rw [a1, jbO_some, jk_some, E_c_text_29, if_pos rfl]
      · rw [a2, jbO_some, jk_none, E_m_text_111, L_m_text_102, if_neg b1]
    rw [a1, jbO_some, jk_some, E_c_text_29, if_neg n10, jsucc, a2, jbO_some, jk_none, E_m_text_111]
    rcases ih f1 p1 pa1 mf1 mg1 (x2 + 1) (by omega) (by omega) a4 with ⟨f2, p2, pa2, mf2, mg2, d2, c1, c2, c3, c4⟩ | ⟨f2, p2, pa2, mf2, mg2, c1, c2, c3, b1, b2, b3⟩
    · left; exact ⟨f2, p2, pa2, mf2, mg2, d2, c1, c2, a3.tr c3, c4⟩
    · right; exact ⟨f2, p2, pa2, mf2, mg2, c1, c2, a3.tr c3, b1, b2, b3⟩
