-- AN HOUR of the reference
theorem M_eats {D F c : Nat} {C Sc : Nat} {q : Nat → Int32} {qa : Nat → Nat → Int32} {S : jS} {e0 p0 c0 : Int32} {cx : jCX} {f : Nat → Int32} {g : Nat → Nat → Int32} {n : Nat → Nat → Int64} {b : Nat → Nat → Int32} {l : Nat → Int64} {t : List jE} {z : Nat × Nat × Nat × (Nat → Int32)} (hA : rAt q qa C Sc S e0 p0 c0 F f g) (hc : c < C) :
    ∃ y n', K_m_eats D (Int32.ofNat F) (Int32.ofNat c) cx f g n b l t z = some (.inl (some (.int (cmeal q qa S.1 S.2 (mwnd f g (S.1 0)) c))), (jXt cx (jY (jup f 15 y) g n' b l t), z)) := by
  obtain ⟨hF, hP, hS, ⟨dn, hd, hdn⟩, -, hfr⟩ := hA
  obtain ⟨hPl, ⟨-, -, -, -, -, g5, g6, -, -⟩, -, -, -, -, hL, -⟩ := hP
  obtain ⟨-, hC30, -, -, -, -, ⟨Wn, hW, hWn⟩, -, -, ⟨n0, hn0, hwf⟩, -⟩ := hPl
  obtain ⟨s14, s15, -, -, -, -, s20, -, -⟩ := hS
  have hcr : g 20 (30 * F + c) = S.2 0 c := s20 c hc
  have hidx : (30 : Int32) * Int32.ofNat F + Int32.ofNat c = Int32.ofNat (30 * F + c) := by rw [jofmullr, jofadd]
  rw [hn0, jclamp (by have := hwf.1; omega)] at hL
  obtain ⟨nm', hca, hnm⟩ := M_calls (D := D) (F := F) (a1 := 0) (a2 := 0) (a3 := 0) (a4 := S.2 0 c) (cx := cx) (f := f) (g := g) (n := n) (b := b) (l := l) (t := t) (z := z) hF (g6.trans hW) hWn (s14.trans hd) hdn hfr
  obtain ⟨b0, hhl, hb0, hb1⟩ := M_lawgo1 (D := D) (cx := cx) (f := f) (g := g) (n := jup n 0 nm') (b := b) (l := l) (t := t) (z := z) hL hwf
  rw [jup_same, jlaw_congr hwf hnm, s14, s15] at hb0 hb1
  simp (disch := omega) only [E_m_eats, E_m_eats_16, E_m_eats_19, jbO_some, jbO_none, jbO_ite, jk_some, jk_none, hidx, jout_f, jclamp, if_false, hcr, hca, hhl]
  unfold cmeal ceatl
  rw [hn0, jclamp (by have := hwf.1; omega)]
  by_cases hb : b0 = 0
  · rw [hb0 hb]
    simp only [hb, if_true, E_m_eats_34, E_m_eats_38, g5]
    refine ⟨f 15, jup n 0 nm', ?_⟩
    rw [jup_self]
  · obtain ⟨y, n1, hgo, hv⟩ := hb1 hb
    simp only [hb, if_false, hgo, jbO_some, jbO_none, jbO_ite, jk_some, jk_none, E_m_eats_23, E_m_eats_34, E_m_eats_38, g5, jb10]
    refine ⟨y, jup (jup n 0 nm') 1 n1, ?_⟩
    cases hl : jlaw n0 (qa 10) (qa 11) (jnm 0 0 (mwnd f g (S.1 0)) (S.1 1) 0 (S.2 0 c) (S.1 0)) with
    | none => simp
    | some v =>
      simp only [Option.isSome_some, not_true_eq_false, if_false, jup_same, hv v hl]
      rfl
theorem M_paysOf {D F i : Nat} {C Sc : Nat} {tf q : Nat → Int32} {qa : Nat → Nat → Int32} {S : jS} {e0 p0 c0 : Int32} {cx : jCX} {f : Nat → Int32} {g : Nat → Nat → Int32} {n : Nat → Nat → Int64} {b : Nat → Nat → Int32} {l : Nat → Int64} {t : List jE} {z : Nat × Nat × Nat × (Nat → Int32)} (hA : rAt q qa C Sc S e0 p0 c0 F f g) (hT : rTw tf f Sc) (hi : i < Sc) :
    ∃ y n', K_m_paysOf D (Int32.ofNat F) (Int32.ofNat i) cx f g n b l t z = some (.inl (some (.int (cwage tf q qa S.1 S.2 (mwnd f g (S.1 0)) i))), (jXt cx (jY (jup f 15 y) g n' b l t), z)) := by
  obtain ⟨hF, hP, hS, ⟨dn, hd, hdn⟩, -, hfr⟩ := hA
  obtain ⟨hPl, ⟨-, -, -, -, -, -, g6, -, -⟩, -, hsc, -, -, -, hL⟩ := hP
  obtain ⟨-, hC30, -, -, -, hS6, ⟨Wn, hW, hWn⟩, -, -, -, ⟨n0, hn0, hwf⟩⟩ := hPl
  obtain ⟨s14, s15, -, -, -, -, -, -, s6⟩ := hS
  obtain ⟨-, -, e5, e6, -⟩ := hsc i hi
  obtain ⟨-, e24, -⟩ := s6 i hi
  have hidx : (6 : Int32) * Int32.ofNat F + Int32.ofNat i = Int32.ofNat (6 * F + i) := by rw [jofmullr, jofadd]
  rw [hn0, jclamp (by have := hwf.1; omega)] at hL
  obtain ⟨nm', hca, hnm⟩ := M_calls (D := D) (F := F) (a1 := qa 3 i + tf 18) (a2 := 0) (a3 := S.2 3 i) (a4 := 0) (cx := cx) (f := f) (g := g) (n := n) (b := b) (l := l) (t := t) (z := z) hF (g6.trans hW) hWn (s14.trans hd) hdn hfr
  obtain ⟨b0, hhl, hb0, hb1⟩ := M_lawgo2 (D := D) (cx := cx) (f := f) (g := g) (n := jup n 0 nm') (b := b) (l := l) (t := t) (z := z) hL hwf
  rw [jup_same, jlaw_congr hwf hnm, s14, s15] at hb0 hb1
  have hi12 : i < 12 := by omega
  simp (disch := omega) only [E_m_paysOf, E_m_paysOf_5, E_m_paysOf_16, E_m_paysOf_19, jbO_some, jbO_none, jbO_ite, jk_some, jk_none, M_sightOf, hidx, jout_f, jclamp, if_false, e5, e24, hT.2.2.1, hca, hhl]
  unfold cwage cpayl
  rw [hn0, jclamp (by have := hwf.1; omega)]
  by_cases hb : b0 = 0
  · rw [hb0 hb]
    simp (disch := omega) only [hb, if_true, E_m_paysOf_34, jout_f, jclamp, if_false, e6]
    refine ⟨f 15, jup n 0 nm', ?_⟩
    rw [jup_self]
  · obtain ⟨y, n1, hgo, hv⟩ := hb1 hb
    simp (disch := omega) only [hb, if_false, hgo, jbO_some, jbO_none, jbO_ite, jk_some, jk_none, E_m_paysOf_23, E_m_paysOf_34, jout_f, jclamp, e6, jb10]
    refine ⟨y, jup (jup n 0 nm') 1 n1, ?_⟩
    cases hl : jlaw n0 (qa 12) (qa 13) (jnm (qa 3 i + tf 18) 0 (mwnd f g (S.1 0)) (S.1 1) (S.2 3 i) 0 (S.1 0)) with
    | none => simp
    | some v =>
      simp only [Option.isSome_some, not_true_eq_false, if_false, jup_same, hv v hl]
      rfl
theorem M_isOnRota {D F i : Nat} {C Sc : Nat} {q : Nat → Int32} {qa : Nat → Nat → Int32} {S : jS} {e0 p0 c0 : Int32} {cx : jCX} {f : Nat → Int32} {g : Nat → Nat → Int32} {n : Nat → Nat → Int64} {b : Nat → Nat → Int32} {l : Nat → Int64} {t : List jE} {z : Nat × Nat × Nat × (Nat → Int32)} (hA : rAt q qa C Sc S e0 p0 c0 F f g) (hi : i < Sc) :
    K_m_isOnRota D (Int32.ofNat F) (Int32.ofNat i) cx f g n b l t z = some (.inl (some (.int (if ((S.2 2 i >>> (S.1 1 &&& 31)) &&& 1) = 0 then 0 else 1))), (jXt cx (jY f g n b l t), z)) := by
  obtain ⟨hF, hP, hS, -, ⟨h, hh, hh12⟩, -⟩ := hA
  have hS6 : Sc ≤ 6 := hP.1.2.2.2.2.2.1
  obtain ⟨-, s15, -, -, -, -, -, -, s6⟩ := hS
  obtain ⟨e23, -, -⟩ := s6 i hi
  have hidx : (6 : Int32) * Int32.ofNat F + Int32.ofNat i = Int32.ofNat (6 * F + i) := by rw [jofmullr, jofadd]
  simp (disch := omega) only [E_m_isOnRota, hidx, jout_f, jclamp, if_false, e23, s15, hh, jbit10, jbit0]
  cases bt (S.2 2 i) h <;> simp
theorem M_isOnStrike {D F i : Nat} {C Sc : Nat} {q : Nat → Int32} {qa : Nat → Nat → Int32} {S : jS} {e0 p0 c0 : Int32} {cx : jCX} {f : Nat → Int32} {g : Nat → Nat → Int32} {n : Nat → Nat → Int64} {b : Nat → Nat → Int32} {l : Nat → Int64} {t : List jE} {z : Nat × Nat × Nat × (Nat → Int32)} (hA : rAt q qa C Sc S e0 p0 c0 F f g) (hi : i < Sc) :
    K_m_isOnStrike D (Int32.ofNat F) (Int32.ofNat i) cx f g n b l t z = some (.inl (some (.int (if ((S.1 2 >>> (Int32.ofNat i &&& 31)) &&& 1) = 0 then 0 else 1))), (jXt cx (jY f g n b l t), z)) := by
  obtain ⟨hF, hP, hS, -⟩ := hA
  have hst := hS.2.2.2.2.2.1 i hi
  simp (disch := omega) only [E_m_isOnStrike, jout_f, jclamp, if_false]
  by_cases h1 : f 19 = 1
  · rw [if_pos h1, if_neg (hst.mp (Or.inl h1))]
  · rw [if_neg h1]
    by_cases h2 : ((g 19 F >>> (Int32.ofNat i &&& 31)) &&& 1) = 1
    · rw [if_pos h2, if_neg (hst.mp (Or.inr h2))]
    · rw [if_neg h2, if_pos]
      apply Classical.byContradiction
      intro h3
      rcases hst.mpr h3 with h | h
      · exact h1 h
      · exact h2 h
theorem M_wind {D F : Nat} {C Sc : Nat} {q : Nat → Int32} {qa : Nat → Nat → Int32} {S : jS} {e0 p0 c0 : Int32} {cx : jCX} {f : Nat → Int32} {g : Nat → Nat → Int32} {n : Nat → Nat → Int64} {b : Nat → Nat → Int32} {l : Nat → Int64} {t : List jE} {z : Nat × Nat × Nat × (Nat → Int32)} (hA : rAt q qa C Sc S e0 p0 c0 F f g) :
    K_m_windOf D (g 14 F) cx f g n b l t z = some (.inl (some (.int (mwnd f g (S.1 0)))), (jXt cx (jY f g n b l t), z)) := by
  obtain ⟨hF, hP, hS, ⟨dn, hd, hdn⟩, -, hfr⟩ := hA
  obtain ⟨Wn, hW, hWn⟩ := hP.1.2.2.2.2.2.2.1
  rw [hS.1, hd]
  exact M_windOf (hP.2.1.2.2.2.2.2.2.1.trans hW) hWn hdn hfr
theorem M_flapsOf {D F i : Nat} {C Sc : Nat} {tf q : Nat → Int32} {qa : Nat → Nat → Int32} {S : jS} {e0 p0 c0 : Int32} {cx : jCX} {f : Nat → Int32} {g : Nat → Nat → Int32} {n : Nat → Nat → Int64} {b : Nat → Nat → Int32} {l : Nat → Int64} {t : List jE} {z : Nat × Nat × Nat × (Nat → Int32)} (hA : rAt q qa C Sc S e0 p0 c0 F f g) (hT : rTw tf f Sc) (hi : i < Sc) :
    K_m_flapsOf D (Int32.ofNat F) (Int32.ofNat i) cx f g n b l t z = some (.inl (some (.int (cflap tf q S.1 S.2 (mwnd f g (S.1 0)) i))), (jXt cx (jY f g n b l t), z)) := by
  have hA2 := hA
  obtain ⟨hF, hP, hS, -⟩ := hA
  have hS6 : Sc ≤ 6 := hP.1.2.2.2.2.2.1
  have g4 : g 1 4 = q 6 := hP.2.1.2.2.2.2.1
  have g7 : g 1 7 = q 8 := hP.2.1.2.2.2.2.2.2.2.1
  have e22 : g 22 (6 * F + i) = S.2 4 i := (hS.2.2.2.2.2.2.2.2 i hi).2.2
  have hidx : (6 : Int32) * Int32.ofNat F + Int32.ofNat i = Int32.ofNat (6 * F + i) := by rw [jofmullr, jofadd]
  have hgone := hT.2.1 i hi
  have hall := hT.2.2.2.1
  have hhrs := hT.2.2.2.2
  have h26 : ∀ d3 u0, K_m_flapsOf_26 D (Int32.ofNat F) (Int32.ofNat i) d3 u0 cx f g n b l t z = some (.inl (some (.int (if ((S.2 2 i >>> (S.1 1 &&& 31)) &&& 1) = 0 then (if mwnd f g (S.1 0) < q 8 then 0 else 2) else if ((S.1 2 >>> (Int32.ofNat i &&& 31)) &&& 1) = 0 then (if S.2 4 i < u0 then 1 else if mwnd f g (S.1 0) < q 8 then 0 else 2) else (if mwnd f g (S.1 0) < q 8 then 0 else 2)))), (jXt cx (jY f g n b l t), z)) := by
    intro d3 u0
    simp (disch := omega) only [E_m_flapsOf, E_m_flapsOf_10, E_m_flapsOf_26, E_m_flapsOf_31, E_m_flapsOf_49, E_m_flapsOf_36, E_m_flapsOf_55, jbO_some, jbO_none, jbO_ite, jk_some, jk_none, M_isOnRota hA2 hi, M_isOnStrike hA2 hi, M_wind hA2, hidx, jout_f, jclamp, if_false, jb01, e22, g7]
    repeat' split
    all_goals first | rfl | simp_all
  simp only [E_m_flapsOf, E_m_flapsOf_10, h26, cflap, g4]
  by_cases hg : f 19 = 2 ∧ f 20 = Int32.ofNat i
  · rw [if_pos hg.1, if_pos hg.2, if_neg (fun h => hgone.mp h hg)]
  · rw [if_pos (hgone.mpr hg)]
    have h10 : (if f 19 = 2 then (if f 20 = Int32.ofNat i then (0 : Int32) else 1) else 1) = 1 := by
      by_cases h2 : f 19 = 2
      · rw [if_pos h2, if_neg (fun h => hg ⟨h2, h⟩)]
      · rw [if_neg h2]
    by_cases h4 : f 19 = 4
    · rw [if_neg (hall.mp h4), if_neg (by rw [h4]; decide), if_pos h4]
    · have ht19 : tf 19 = 0 := Classical.byContradiction fun h => h4 (hall.mpr h)
      rw [if_pos ht19]
      by_cases h5 : f 19 = 5
      · rw [if_neg (hhrs.mp h5), if_neg (by rw [h5]; decide), if_neg h4, if_pos h5]
      · have ht20 : tf 20 = 0 := Classical.byContradiction fun h => h5 (hhrs.mpr h)
        rw [if_pos ht20]
        by_cases h2 : f 19 = 2
        · rw [if_pos h2, if_neg (fun h => hg ⟨h2, h⟩), if_neg h4, if_neg h5]
        · rw [if_neg h2, if_neg h4, if_neg h5]
