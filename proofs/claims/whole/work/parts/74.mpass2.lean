-- THE REFERENCE's HOUR, whole
theorem M_fill {D F : Nat} {d2 d3 : Option Value} {cx : jCX} {f : Nat → Int32} {g : Nat → Nat → Int32} {n : Nat → Nat → Int64} {b : Nat → Nat → Int32} {l : Nat → Int64} {t : List jE} {z : Nat × Nat × Nat × (Nat → Int32)} (hF : F < 23) : K_m_passes_98 D (Int32.ofNat F) d2 d3 0 cx f g n b l t z = some (.inl none, (jXt cx (jY f (jup g 22 (fun i => if 6 * F ≤ i ∧ i < 6 * F + 6 then 0 else g 22 i)) n b l t), z)) := by
  have hidx : ∀ c : Nat, (6 : Int32) * Int32.ofNat F + Int32.ofNat c = Int32.ofNat (6 * F + c) := by intro c; rw [jofmullr, jofadd]
  have key : ∀ k, k ≤ 6 → K_m_passes_98 D (Int32.ofNat F) d2 d3 0 cx f g n b l t z = K_m_passes_98 D (Int32.ofNat F) d2 d3 (Int32.ofNat k) cx f (jup g 22 (fun i => if 6 * F ≤ i ∧ i < 6 * F + k then 0 else g 22 i)) n b l t z := by
    intro k
    induction k with
    | zero =>
      intro _
      have : (fun i => if 6 * F ≤ i ∧ i < 6 * F + 0 then 0 else g 22 i) = g 22 := by
        funext i; rw [if_neg (by omega)]
      rw [this, jup_self]; rfl
    | succ k ih =>
      intro hk
      have hlt : Int32.ofNat k < 6 := jlt_t (b := 6) (by omega) (by omega)
      have hx : jup (fun i => if 6 * F ≤ i ∧ i < 6 * F + k then 0 else g 22 i) (6 * F + k) 0 = fun i => if 6 * F ≤ i ∧ i < 6 * F + (k + 1) then 0 else g 22 i := by
        funext i
        by_cases hi : i = 6 * F + k
        · subst hi; rw [jup_same, if_pos (by omega)]
        · rw [jup_ne hi]
          by_cases h2 : 6 * F ≤ i ∧ i < 6 * F + k
          · rw [if_pos h2, if_pos (by omega)]
          · rw [if_neg h2, if_neg (by omega)]
      rw [ih (by omega), L_m_passes_98]
      simp (disch := omega) only [hlt, if_true, E_m_passes_109, hidx, jout_f, jclamp, if_false, jup_same, jup_jup, jsucc, hx]
  rw [key 6 (Nat.le_refl 6), L_m_passes_98, if_neg (show ¬ Int32.ofNat 6 < 6 by decide)]
theorem M_p56 {D F h : Nat} {C Sc : Nat} {U : jS} {e0 p0 c0 tw se : Int32} {d3 d4 : Option Value} {cx : jCX} {f : Nat → Int32} {g : Nat → Nat → Int32} {n : Nat → Nat → Int64} {b : Nat → Nat → Int32} {l : Nat → Int64} {t : List jE} {z : Nat × Nat × Nat × (Nat → Int32)} (hF : F < 23) (hC : C ≤ 30) (hS6 : Sc ≤ 6) (hst : rSt C Sc U e0 p0 c0 tw F g) (hh : U.1 1 = Int32.ofNat h) (hh12 : h < 12) :
    ∃ g', K_m_passes_56 D (Int32.ofNat F) se d3 d4 cx f g n b l t z = some (.inl none, (jXt cx (jY f g' n b l t), z)) ∧ jfo F g g' ∧ g' 19 = g 19 ∧ rSt C Sc (cS3 se U) e0 p0 c0 tw F g' := by
  obtain ⟨a1, a2, a3, a4, a5, a6, a7, a8, a9⟩ := hst
  have hidh : (12 : Int32) * Int32.ofNat F + Int32.ofNat h = Int32.ofNat (12 * F + h) := by rw [jofmullr, jofadd]
  have g15 : g 15 F = Int32.ofNat h := a2.trans hh
  have n1521 : ∀ x, (jup g 21 x) 15 = g 15 := fun x => jup_ne (by omega)
  unfold cS3 ctick
  simp (disch := omega) only [E_m_passes_56, E_m_passes_67, E_m_passes_75, g15, hidh, jout_f, jclamp, if_false, n1521, jup_same, hh]
  by_cases h12 : Int32.ofNat h + 1 < 12
  · simp only [h12, if_true]
    refine ⟨_, rfl, ⟨?_, ?_, ?_, ?_, ?_⟩, ?_, ⟨?_, ?_, ?_, ?_, ?_, ?_, ?_, ?_, ?_⟩⟩
    · intro x hx; rw [jup_ne (by omega), jup_ne (by omega)]
    · intro x h1 h2 i hi
      by_cases hx : x = 15
      · subst hx; rw [jup_same, jup_ne hi]
      · rw [jup_ne hx, jup_ne (by omega)]
    · intro i hi; rw [jup_ne (by omega), jup_ne (by omega)]
    · intro i hi; rw [jup_ne (by omega), jup_same, jup_ne (by omega)]
    · intro x h1 h2 i hi; rw [jup_ne (by omega), jup_ne (by omega)]
    · rw [jup_ne (by omega), jup_ne (by omega)]
    · simpa [jup] using a1
    · simp [jup]
    · simpa [jup] using a3
    · simpa [jup] using a4
    · simpa [jup] using a5
    · simpa [jup] using a6
    · simpa [jup] using a7
    · intro x hx
      by_cases hxh : x = h
      · subst hxh; simp [jup]
      · simp [jup, hxh, show ¬ 12 * F + x = 12 * F + h by omega, a8 x hx]
    · simpa [jup] using a9
  · simp (disch := omega) only [h12, if_false, E_m_passes_87, E_m_passes_95, jout_f, jclamp, jup_same, jup_jup, M_fill hF]
    refine ⟨_, rfl, ⟨?_, ?_, ?_, ?_, ?_⟩, ?_, ⟨?_, ?_, ?_, ?_, ?_, ?_, ?_, ?_, ?_⟩⟩
    · intro x hx; rw [jup_ne (by omega), jup_ne (by omega), jup_ne (by omega), jup_ne (by omega)]
    · intro x h1 h2 i hi
      rw [jup_ne (by omega)]
      by_cases hx : x = 14
      · subst hx; rw [jup_same, jup_ne hi, jup_ne (by omega), jup_ne (by omega)]
      · rw [jup_ne hx]
        by_cases hx : x = 15
        · subst hx; rw [jup_same, jup_ne hi]
        · rw [jup_ne hx, jup_ne (by omega)]
    · intro i hi; rw [jup_ne (by omega), jup_ne (by omega), jup_ne (by omega), jup_ne (by omega)]
    · intro i hi; rw [jup_ne (by omega), jup_ne (by omega), jup_ne (by omega), jup_same, jup_ne (by omega)]
    · intro x h1 h2 i hi
      by_cases hx : x = 22
      · subst hx; rw [jup_same, if_neg (by omega), jup_ne (by omega), jup_ne (by omega), jup_ne (by omega)]
      · rw [jup_ne hx, jup_ne (by omega), jup_ne (by omega), jup_ne (by omega)]
    · rw [jup_ne (by omega), jup_ne (by omega), jup_ne (by omega), jup_ne (by omega)]
    · simp [jup, a1]
    · simp [jup]
    · simpa [jup] using a3
    · simpa [jup] using a4
    · simpa [jup] using a5
    · simpa [jup] using a6
    · simpa [jup] using a7
    · intro x hx
      by_cases hxh : x = h
      · subst hxh; simp [jup]
      · simp [jup, hxh, show ¬ 12 * F + x = 12 * F + h by omega, a8 x hx]
    · intro i hi
      obtain ⟨b1, b2, b3⟩ := a9 i hi
      refine ⟨by simpa [jup] using b1, by simpa [jup] using b2, ?_⟩
      simp [jup, jfil, show i < 6 by omega]
set_option maxHeartbeats 4000000 in
theorem M_passes {D F : Nat} {C Sc : Nat} {tf q : Nat → Int32} {qa : Nat → Nat → Int32} {S : jS} {e0 p0 c0 : Int32} {cx : jCX} {f : Nat → Int32} {g : Nat → Nat → Int32} {n : Nat → Nat → Int64} {b : Nat → Nat → Int32} {l : Nat → Int64} {t : List jE} {z : Nat × Nat × Nat × (Nat → Int32)} (hA : rAt q qa C Sc S e0 p0 c0 F f g) (hT : rTw tf f Sc) :
    ∃ y n' g', K_m_passes D (Int32.ofNat F) cx f g n b l t z = some (.inl none, (jXt cx (jY (jup f 15 y) g' n' b l t), z)) ∧ jfo F g g' ∧ g' 19 = g 19 ∧ rSt C Sc (cS tf q qa (mwnd f g (S.1 0)) C Sc S) e0 p0 c0 (f 19) F g' := by
  obtain ⟨y, n1, g1, hfl, hfo, h19, hst⟩ := M_flaps1 (D := D) (tf := tf) (cx := cx) (f := f) (g := g) (n := n) (b := b) (l := l) (t := t) (z := z) hA hT
  have hA2 := hA
  obtain ⟨hF, hP, hS, hday, ⟨h, hh, hh12⟩, hfr⟩ := hA
  have hC30 : C ≤ 30 := hP.1.2.1
  have hS6 : Sc ≤ 6 := hP.1.2.2.2.2.2.1
  generalize hwv : mwnd f g (S.1 0) = wv at hfl hst ⊢
  generalize hse : cse tf q qa wv C S Sc = se at hfl
  have hcS : cS tf q qa wv C Sc S = cS3 se (cS2 q qa wv se (caim tf S.1 S.2 C) (cS1 tf q qa wv Sc S)) := by unfold cS; rw [hse]
  rw [hcS]
  have t0 : (cS1 tf q qa wv Sc S).1 0 = S.1 0 := by unfold cS1; dsimp only; rw [jup_ne (by omega)]
  have t1 : (cS1 tf q qa wv Sc S).1 1 = S.1 1 := by unfold cS1; dsimp only; rw [jup_ne (by omega)]
  have tt0 : (cS1 tf q qa wv Sc S).2 0 = S.2 0 := by unfold cS1; dsimp only; rw [jup_ne (by omega)]
  have tt1 : (cS1 tf q qa wv Sc S).2 1 = S.2 1 := by unfold cS1; dsimp only; rw [jup_ne (by omega)]
  generalize cS1 tf q qa wv Sc S = TT at hst t0 t1 tt0 tt1 ⊢
  have hAT : rAt q qa C Sc TT e0 p0 c0 F (jup f 15 y) g1 := by
    refine ⟨hF, hfo.pl hP, ?_, ?_, ?_, ?_⟩
    · rw [jup_ne (by omega)]; exact hst
    · rw [t0]; exact hday
    · rw [t1]; exact ⟨h, hh, hh12⟩
    · rw [jup_ne (by omega)]; exact hfr
  have hwT : mwnd (jup f 15 y) g1 (TT.1 0) = wv := by rw [mwnd_f, mwnd_g hfo, t0]; exact hwv
  have hcm := M_comes (D := D) (cx := cx) (n := n1) (b := b) (l := l) (t := t) (z := z) hAT (rTw_f (y := y) hT)
  rw [caim_congr (a' := S.1) (aa' := S.2) t1 tt0 tt1] at hcm
  simp only [E_m_passes, hfl, jbO_some, jbO_none, jbO_ite, jk_some, jk_none, E_m_passes_4, hcm, E_m_passes_8]
  cases hca : caim tf S.1 S.2 C with
  | none =>
    obtain ⟨g', he, hfo2, h192, hst2⟩ := M_p56 (D := D) (se := se) (d3 := some (.int (-1))) (d4 := none) (cx := cx) (f := jup f 15 y) (n := n1) (b := b) (l := l) (t := t) (z := z) hF hC30 hS6 hst (t1.trans hh) hh12
    simp only [jopt, if_true, E_m_passes_28, he, cS2]
    exact ⟨y, n1, g', rfl, hfo.tr hfo2, h192.trans h19, hst2⟩
  | some c =>
    have hc : c < C := caimk_lt hca
    have hne : ¬ Int32.ofNat c = -1 := by rw [jnot_one (by omega)]; exact fun q => q
    simp only [jopt, hne, if_false, cS2]
    by_cases hb : ((se >>> (Int32.ofNat c &&& 31)) &&& 1) = 0
    · have hb1 : ¬ ((se >>> (Int32.ofNat c &&& 31)) &&& 1) = 1 := by rw [hb]; decide
      obtain ⟨y2, n2, hea⟩ := M_eats (D := D) (c := c) (cx := cx) (n := n1) (b := b) (l := l) (t := t) (z := z) hAT hc
      rw [hwT, jup_jup] at hea
      generalize hm : cmeal q qa TT.1 TT.2 wv c = ml at hea ⊢
      obtain ⟨a1, a2, a3, a4, a5, a6, a7, a8, a9⟩ := hst
      have hidx : (30 : Int32) * Int32.ofNat F + Int32.ofNat c = Int32.ofNat (30 * F + c) := by rw [jofmullr, jofadd]
      have hst3 : rSt C Sc (jup TT.1 3 (TT.1 3 + ml), jup TT.2 0 (jup (TT.2 0) c (TT.2 0 c - ml))) e0 p0 c0 (f 19) F (jup (jup g1 20 (jup (g1 20) (30 * F + c) (g1 20 (30 * F + c) - ml))) 16 (jup (g1 16) F (g1 16 F + ml))) := by
        refine ⟨?_, ?_, ?_, ?_, ?_, ?_, ?_, ?_, ?_⟩
        · simpa [jup] using a1
        · simpa [jup] using a2
        · simp [jup, a3, Int32.add_assoc]
        · simpa [jup] using a4
        · simpa [jup] using a5
        · simpa [jup] using a6
        · intro x hx
          by_cases hxc : x = c
          · subst hxc; simp [jup, a7 x hx]
          · simp [jup, hxc, show ¬ 30 * F + x = 30 * F + c by omega, a7 x hx]
        · simpa [jup] using a8
        · simpa [jup] using a9
      have hfo3 : jfo F g1 (jup (jup g1 20 (jup (g1 20) (30 * F + c) (g1 20 (30 * F + c) - ml))) 16 (jup (g1 16) F (g1 16 F + ml))) := by
        refine ⟨?_, ?_, ?_, ?_, ?_⟩
        · intro x hx; rw [jup_ne (by omega), jup_ne (by omega)]
        · intro x h1 h2 i hi
          by_cases hx : x = 16
          · subst hx; rw [jup_same, jup_ne hi]
          · rw [jup_ne hx, jup_ne (by omega)]
        · intro i hi; rw [jup_ne (by omega), jup_same, jup_ne (by omega)]
        · intro i hi; rw [jup_ne (by omega), jup_ne (by omega)]
        · intro x h1 h2 i hi; rw [jup_ne (by omega), jup_ne (by omega)]
      obtain ⟨g', he, hfo2, h192, hst2⟩ := M_p56 (D := D) (se := se) (h := h) (d3 := some (.int (Int32.ofNat c))) (d4 := some (.int ml)) (cx := cx) (f := jup f 15 y2) (n := n2) (b := b) (l := l) (t := t) (z := z) hF hC30 hS6 hst3 (by dsimp only; rw [jup_ne (by omega)]; exact t1.trans hh) hh12
      have h16 : ∀ x, (jup g1 20 x) 16 = g1 16 := fun x => jup_ne (by omega)
      simp (disch := omega) only [hb1, hb, if_false, if_true, E_m_passes_28, hne, hea, jbO_some, jbO_none, jbO_ite, jk_some, jk_none, E_m_passes_35, hidx, jout_f, jclamp, E_m_passes_47, E_m_passes_55, h16, he]
      refine ⟨y2, n2, g', rfl, (hfo.tr hfo3).tr hfo2, ?_, hst2⟩
      rw [h192, jup_ne (by omega), jup_ne (by omega)]; exact h19
    · have hb1 : ((se >>> (Int32.ofNat c &&& 31)) &&& 1) = 1 := by
        rw [jbit10 (by omega)]; rw [jbit0 (by omega)] at hb; simpa using hb
      obtain ⟨a1, a2, a3, a4, a5, a6, a7, a8, a9⟩ := hst
      have hst3 : rSt C Sc (jup TT.1 5 (TT.1 5 + 1), TT.2) e0 p0 c0 (f 19) F (jup g1 18 (jup (g1 18) F (g1 18 F + 1))) := by
        refine ⟨?_, ?_, ?_, ?_, ?_, ?_, ?_, ?_, ?_⟩
        · simpa [jup] using a1
        · simpa [jup] using a2
        · simpa [jup] using a3
        · simpa [jup] using a4
        · simp [jup, a5, Int32.add_assoc]
        · simpa [jup] using a6
        · simpa [jup] using a7
        · simpa [jup] using a8
        · simpa [jup] using a9
      have hfo3 : jfo F g1 (jup g1 18 (jup (g1 18) F (g1 18 F + 1))) := by
        refine ⟨?_, ?_, ?_, ?_, ?_⟩
        · intro x hx; rw [jup_ne (by omega)]
        · intro x h1 h2 i hi
          by_cases hx : x = 18
          · subst hx; rw [jup_same, jup_ne hi]
          · rw [jup_ne hx]
        · intro i hi; rw [jup_ne (by omega)]
        · intro i hi; rw [jup_ne (by omega)]
        · intro x h1 h2 i hi; rw [jup_ne (by omega)]
      obtain ⟨g', he, hfo2, h192, hst2⟩ := M_p56 (D := D) (se := se) (h := h) (d3 := some (.int (Int32.ofNat c))) (d4 := none) (cx := cx) (f := jup f 15 y) (n := n1) (b := b) (l := l) (t := t) (z := z) hF hC30 hS6 hst3 (by dsimp only; rw [jup_ne (by omega)]; exact t1.trans hh) hh12
      simp (disch := omega) only [hb1, hb, if_false, if_true, jout_f, jclamp, he]
      refine ⟨y, n1, g', rfl, (hfo.tr hfo3).tr hfo2, ?_, hst2⟩
      rw [h192, jup_ne (by omega)]; exact h19
