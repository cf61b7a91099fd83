-- AN HOUR of the reference, whole
theorem rAt_f {q : Nat → Int32} {qa : Nat → Nat → Int32} {C Sc : Nat} {S : jS} {e0 p0 c0 y : Int32} {F : Nat} {f : Nat → Int32} {g : Nat → Nat → Int32} (h : rAt q qa C Sc S e0 p0 c0 F f g) : rAt q qa C Sc S e0 p0 c0 F (jup f 15 y) g := by
  unfold rAt at h ⊢
  rw [jup_ne (by omega), jup_ne (by omega)]
  exact h
theorem rTw_f {tf f : Nat → Int32} {Sc : Nat} {y : Int32} (h : rTw tf f Sc) : rTw tf (jup f 15 y) Sc := by
  unfold rTw at h ⊢
  rw [jup_ne (by omega), jup_ne (by omega)]
  exact h
theorem mwnd_f {f : Nat → Int32} {g : Nat → Nat → Int32} {y d : Int32} : mwnd (jup f 15 y) g d = mwnd f g d := by
  unfold mwnd
  rw [jup_ne (by omega)]
theorem mwnd_g {F : Nat} {f : Nat → Int32} {g g' : Nat → Nat → Int32} {d : Int32} (h : jfo F g g') : mwnd f g' d = mwnd f g d := by
  unfold mwnd
  rw [h.1 1 (by omega), h.1 9 (by omega), h.1 25 (by omega)]
theorem M_cells {D : Nat} {C Sc : Nat} {q : Nat → Int32} {qa : Nat → Nat → Int32} {cx : jCX} {f : Nat → Int32} {g : Nat → Nat → Int32} {n : Nat → Nat → Int64} {b : Nat → Nat → Int32} {l : Nat → Int64} {t : List jE} {z : Nat × Nat × Nat × (Nat → Int32)} (hP : rPl q qa C Sc g) : K_m_cells D cx f g n b l t z = some (.inl (some (.int (Int32.ofNat C))), (jXt cx (jY f g n b l t), z)) := by
  rw [E_m_cells, hP.2.1.1, hP.2.1.2.1, hP.1.1]
/-- what one scare sees comes to a set -/
theorem M_flaps_in {D F i : Nat} {C Sc : Nat} {tf q : Nat → Int32} {qa : Nat → Nat → Int32} {S : jS} {e0 p0 c0 x2 set : Int32} {d5 d6 : Option Value} {cx : jCX} {f : Nat → Int32} {g : Nat → Nat → Int32} {n : Nat → Nat → Int64} {b : Nat → Nat → Int32} {l : Nat → Int64} {t : List jE} {z : Nat × Nat × Nat × (Nat → Int32)} (hA : rAt q qa C Sc S e0 p0 c0 F f g) (hT : rTw tf f Sc) (hi : i < Sc) :
    ∃ y n' d5' d6', K_m_flaps_46 D (Int32.ofNat F) x2 set (Int32.ofNat i) d5 d6 cx f g n b l t z = K_m_flaps_4 D (Int32.ofNat F) x2 (set ||| jset (csees tf q qa S.1 S.2 (mwnd f g (S.1 0)) i) C) (Int32.ofNat (i + 1)) d5' d6' cx (jup f 15 y) g n' b l t z := by
  have hC30 : C ≤ 30 := hA.2.1.1.2.1
  have hS6 : Sc ≤ 6 := hA.2.1.1.2.2.2.2.2.1
  generalize hPP : csees tf q qa S.1 S.2 (mwnd f g (S.1 0)) i = P
  have key : ∀ k, k ≤ C → ∃ y n', K_m_flaps_48 D (Int32.ofNat F) x2 set (Int32.ofNat i) d5 0 cx f g n b l t z = K_m_flaps_48 D (Int32.ofNat F) x2 (set ||| jset P k) (Int32.ofNat i) d5 (Int32.ofNat k) cx (jup f 15 y) g n' b l t z := by
    intro k
    induction k with
    | zero =>
      intro _
      refine ⟨f 15, n, ?_⟩
      rw [jup_self, jset, Int32.or_zero]; rfl
    | succ k ih =>
      intro hk
      obtain ⟨y, n', he⟩ := ih (by omega)
      obtain ⟨y2, n2, hse⟩ := M_isSeen (D := D) (c := k) (i := i) (tf := tf) (cx := cx) (f := jup f 15 y) (g := g) (n := n') (b := b) (l := l) (t := t) (z := z) (rAt_f hA) (rTw_f hT) (by omega) hi
      rw [mwnd_f, hPP, jup_jup] at hse
      refine ⟨y2, n2, ?_⟩
      rw [he, L_m_flaps_48, M_cells hA.2.1]
      have hlt : Int32.ofNat k < Int32.ofNat C := jlt_t (by omega) (by omega)
      simp only [jbO_some, jbO_none, jbO_ite, jk_some, jk_none, E_m_flaps_51, hlt, if_true, hse, E_m_flaps_58, E_m_flaps_64, jb10, jsucc]
      have hj : jset P (k + 1) = if P k then jset P k ||| (1 <<< (Int32.ofNat k &&& 31)) else jset P k := rfl
      by_cases hp : P k = true
      · rw [if_neg (by simp [hp]), hj, if_pos hp, Int32.or_assoc]
      · rw [if_pos hp, hj, if_neg hp, Int32.or_zero]
  obtain ⟨y, n', he⟩ := key C (Nat.le_refl C)
  have hlt : ¬ Int32.ofNat C < Int32.ofNat C := jlt_n (by omega) (by omega)
  rw [E_m_flaps_46, he, L_m_flaps_48, M_cells hA.2.1]
  simp only [jbO_some, jbO_none, jbO_ite, jk_some, jk_none, E_m_flaps_51, hlt, if_false, E_m_flaps_68, jsucc]
  exact ⟨y, n', _, _, rfl⟩
/-- a scare is paid -/
theorem rSt_pay {C Sc F k : Nat} {A : Nat → Int32} {AA : Nat → Nat → Int32} {e0 p0 c0 tw w : Int32} {g : Nat → Nat → Int32} (h : rSt C Sc (A, AA) e0 p0 c0 tw F g) (hk : k < Sc) (hS : Sc ≤ 6) :
    rSt C Sc (jup A 4 (A 4 + w), jup AA 4 (jup (AA 4) k (AA 4 k + 1))) e0 p0 c0 tw F (jup (jup g 17 (jup (g 17) F (g 17 F + w))) 22 (jup (g 22) (6 * F + k) (g 22 (6 * F + k) + 1))) ∧
      jfo F g (jup (jup g 17 (jup (g 17) F (g 17 F + w))) 22 (jup (g 22) (6 * F + k) (g 22 (6 * F + k) + 1))) := by
  obtain ⟨a1, a2, a3, a4, a5, a6, a7, a8, a9⟩ := h
  dsimp only at a1 a2 a3 a4 a5 a6 a7 a8 a9
  refine ⟨⟨?_, ?_, ?_, ?_, ?_, ?_, ?_, ?_, ?_⟩, ?_, ?_, ?_, ?_, ?_⟩
  · simpa [jup] using a1
  · simpa [jup] using a2
  · simpa [jup] using a3
  · simp [jup, a4, Int32.add_assoc]
  · simpa [jup] using a5
  · simpa [jup] using a6
  · simpa [jup] using a7
  · simpa [jup] using a8
  · intro i hi
    obtain ⟨b1, b2, b3⟩ := a9 i hi
    refine ⟨by simpa [jup] using b1, by simpa [jup] using b2, ?_⟩
    by_cases hik : i = k
    · subst hik; simp [jup, b3]
    · simp [jup, hik, b3, show ¬ 6 * F + i = 6 * F + k by omega]
  · intro x hx; simp [jup, show ¬ x = 22 by omega, show ¬ x = 17 by omega]
  · intro x h1 h2 i hi
    by_cases hx : x = 17
    · subst hx; simp [jup, hi]
    · simp [jup, show ¬ x = 22 by omega, hx]
  · intro i hi; simp [jup]
  · intro i hi; simp [jup]
  · intro x h1 h2 i hi
    by_cases hx : x = 22
    · subst hx; simp [jup, show ¬ i = 6 * F + k by omega]
    · simp [jup, hx, show ¬ x = 17 by omega]
set_option maxHeartbeats 4000000 in
theorem M_flaps1 {D F : Nat} {C Sc : Nat} {tf q : Nat → Int32} {qa : Nat → Nat → Int32} {S : jS} {e0 p0 c0 : Int32} {cx : jCX} {f : Nat → Int32} {g : Nat → Nat → Int32} {n : Nat → Nat → Int64} {b : Nat → Nat → Int32} {l : Nat → Int64} {t : List jE} {z : Nat × Nat × Nat × (Nat → Int32)} (hA : rAt q qa C Sc S e0 p0 c0 F f g) (hT : rTw tf f Sc) :
    ∃ y n' g', K_m_flaps D (Int32.ofNat F) 1 cx f g n b l t z = some (.inl (some (.int (cse tf q qa (mwnd f g (S.1 0)) C S Sc))), (jXt cx (jY (jup f 15 y) g' n' b l t), z)) ∧ jfo F g g' ∧ g' 19 = g 19 ∧ rSt C Sc (cS1 tf q qa (mwnd f g (S.1 0)) Sc S) e0 p0 c0 (f 19) F g' := by
  have hA2 := hA
  obtain ⟨hF, hP, hS, hday, hhour, hfr⟩ := hA
  have hS6 : Sc ≤ 6 := hP.1.2.2.2.2.2.1
  generalize hwv : mwnd f g (S.1 0) = wv
  rw [E_m_flaps]
  have key : ∀ k, k ≤ Sc → ∃ y n' g' d5 d6, K_m_flaps_4 D (Int32.ofNat F) 1 0 0 none none cx f g n b l t z = K_m_flaps_4 D (Int32.ofNat F) 1 (cse tf q qa wv C S k) (Int32.ofNat k) d5 d6 cx (jup f 15 y) g' n' b l t z ∧ jfo F g g' ∧ g' 19 = g 19 ∧
      rSt C Sc (jup S.1 4 (csp tf q qa wv S k), jup S.2 4 (cfl tf q wv S k)) e0 p0 c0 (f 19) F g' := by
    intro k
    induction k with
    | zero =>
      intro _
      refine ⟨f 15, n, g, none, none, ?_, jfo.rf, rfl, ?_⟩
      · rw [jup_self]; rfl
      · simp only [csp, cfl, jup_self]; exact hS
    | succ k ih =>
      intro hk
      obtain ⟨y, n', g', d5, d6, he, hfo, h19, hst⟩ := ih (by omega)
      have hspk : csp tf q qa wv S (k + 1) = if cflap tf q S.1 S.2 wv k = 1 then csp tf q qa wv S k + cwage tf q qa S.1 S.2 wv k else csp tf q qa wv S k := rfl
      have hflk : cfl tf q wv S (k + 1) = if cflap tf q S.1 S.2 wv k = 1 then jup (cfl tf q wv S k) k (cfl tf q wv S k k + 1) else cfl tf q wv S k := rfl
      have hsek : cse tf q qa wv C S (k + 1) = if cflap tf q S.1 S.2 wv k = 0 then cse tf q qa wv C S k else cse tf q qa wv C S k ||| jset (csees tf q qa S.1 S.2 wv k) C := rfl
      generalize hAd : jup S.1 4 (csp tf q qa wv S k) = A at hst
      generalize hAAd : jup S.2 4 (cfl tf q wv S k) = AA at hst
      have a0 : A 0 = S.1 0 := by rw [← hAd, jup_ne (by omega)]
      have a1 : A 1 = S.1 1 := by rw [← hAd, jup_ne (by omega)]
      have a2 : A 2 = S.1 2 := by rw [← hAd, jup_ne (by omega)]
      have aa0 : AA 0 = S.2 0 := by rw [← hAAd, jup_ne (by omega)]
      have aa2 : AA 2 = S.2 2 := by rw [← hAAd, jup_ne (by omega)]
      have aa3 : AA 3 = S.2 3 := by rw [← hAAd, jup_ne (by omega)]
      have aa4 : AA 4 k = S.2 4 k := by rw [← hAAd, jup_same]; exact cfl_ge (Nat.le_refl k)
      have hmw : ∀ y' g2, jfo F g g2 → mwnd (jup f 15 y') g2 (S.1 0) = wv := by
        intro y' g2 h2; rw [mwnd_f, mwnd_g h2]; exact hwv
      have hAk : ∀ (B : Nat → Int32) (BB : Nat → Nat → Int32) y' g2, jfo F g g2 → rSt C Sc (B, BB) e0 p0 c0 (f 19) F g2 → B 0 = S.1 0 → B 1 = S.1 1 → rAt q qa C Sc (B, BB) e0 p0 c0 F (jup f 15 y') g2 := by
        intro B BB y' g2 h2 h3 b0 b1
        refine ⟨hF, h2.pl hP, ?_, ?_, ?_, ?_⟩
        · rw [jup_ne (by omega)]; exact h3
        · dsimp only; rw [b0]; exact hday
        · dsimp only; rw [b1]; exact hhour
        · rw [jup_ne (by omega)]; exact hfr
      have hfl := M_flapsOf (D := D) (i := k) (tf := tf) (cx := cx) (f := jup f 15 y) (g := g') (n := n') (b := b) (l := l) (t := t) (z := z) (hAk A AA y g' hfo hst a0 a1) (rTw_f hT) (by omega)
      dsimp only at hfl
      rw [a0, hmw y g' hfo, cflap_congr (a' := S.1) (aa' := S.2) a1 a2 (by rw [aa2]) aa4] at hfl
      have hlt : Int32.ofNat k < g' 1 2 := by
        rw [hfo.1 1 (by omega), hP.2.1.2.2.1, hP.1.2.2.2.2.1]; exact jlt_t (by omega) (by omega)
      rw [he, L_m_flaps_4, if_pos hlt, hfl]
      simp only [jbO_some, jbO_none, jbO_ite, jk_some, jk_none, E_m_flaps_14]
      by_cases hf0 : cflap tf q S.1 S.2 wv k = 0
      · have hf1 : ¬ cflap tf q S.1 S.2 wv k = 1 := by rw [hf0]; decide
        rw [if_pos hf0] at hsek
        rw [if_neg hf1] at hspk hflk
        simp only [hf0, if_true, E_m_flaps_68, jsucc, hsek, hspk, hflk, hAd, hAAd]
        exact ⟨y, n', g', _, _, rfl, hfo, h19, hst⟩
      · rw [if_neg hf0] at hsek
        by_cases hf1 : cflap tf q S.1 S.2 wv k = 1
        · rw [if_pos hf1] at hspk hflk
          obtain ⟨y2, n2, hpay⟩ := M_paysOf (D := D) (i := k) (tf := tf) (cx := cx) (f := jup f 15 y) (g := g') (n := n') (b := b) (l := l) (t := t) (z := z) (hAk A AA y g' hfo hst a0 a1) (rTw_f hT) (by omega)
          dsimp only at hpay
          rw [a0, hmw y g' hfo, cwage_congr (a' := S.1) (aa' := S.2) a0 a1 aa3, jup_jup] at hpay
          obtain ⟨hst2, hfo2⟩ := rSt_pay (w := cwage tf q qa S.1 S.2 wv k) hst (show k < Sc by omega) hS6
          have hidx : (6 : Int32) * Int32.ofNat F + Int32.ofNat k = Int32.ofNat (6 * F + k) := by rw [jofmullr, jofadd]
          have hfo3 := hfo.tr hfo2
          obtain ⟨y3, n3, d5', d6', hin⟩ := M_flaps_in (D := D) (i := k) (tf := tf) (x2 := 1) (set := cse tf q qa wv C S k) (d5 := some (.int 1)) (d6 := d6) (cx := cx) (f := jup f 15 y2) (n := n2) (b := b) (l := l) (t := t) (z := z) (hAk _ _ y2 _ hfo3 hst2 (by rw [jup_ne (by omega)]; exact a0) (by rw [jup_ne (by omega)]; exact a1)) (rTw_f hT) (by omega)
          dsimp only at hin
          rw [jup_ne (show (0 : Nat) ≠ 4 by omega), a0, hmw y2 _ hfo3, csees_congr (a' := S.1) (aa' := S.2) (by rw [jup_ne (by omega)]; exact a0) (by rw [jup_ne (by omega)]; exact a1) (by rw [jup_ne (by omega)]; exact aa0) (by rw [jup_ne (by omega)]; exact aa3), jup_jup, ← hsek] at hin
          have h22 : ∀ x, (jup g' 17 x) 22 = g' 22 := fun x => jup_ne (by omega)
          simp +decide (disch := omega) only [hf1, if_true, if_false, jout_f, jclamp, hpay, jbO_some, jbO_none, jbO_ite, jk_some, jk_none, E_m_flaps_32, hidx, E_m_flaps_45, h22, hin]
          refine ⟨y3, n3, _, _, _, rfl, hfo3, ?_, ?_⟩
          · rw [jup_ne (by omega), jup_ne (by omega)]; exact h19
          · rw [hspk, hflk]
            rw [← hAd, ← hAAd] at hst2
            simpa only [jup_same, jup_jup] using hst2
        · rw [if_neg hf1] at hspk hflk
          obtain ⟨y3, n3, d5', d6', hin⟩ := M_flaps_in (D := D) (i := k) (tf := tf) (x2 := 1) (set := cse tf q qa wv C S k) (d5 := some (.int (cflap tf q S.1 S.2 wv k))) (d6 := d6) (cx := cx) (f := jup f 15 y) (g := g') (n := n') (b := b) (l := l) (t := t) (z := z) (hAk A AA y g' hfo hst a0 a1) (rTw_f hT) (by omega)
          dsimp only at hin
          rw [a0, hmw y g' hfo, csees_congr (a' := S.1) (aa' := S.2) a0 a1 aa0 aa3, jup_jup, ← hsek] at hin
          simp only [hf0, hf1, if_false, hin, hspk, hflk, hAd, hAAd]
          exact ⟨y3, n3, g', _, _, rfl, hfo, h19, hst⟩
  obtain ⟨y, n', g', d5, d6, he, hfo, h19, hst⟩ := key Sc (Nat.le_refl Sc)
  refine ⟨y, n', g', ?_, hfo, h19, hst⟩
  have hlt : ¬ Int32.ofNat Sc < g' 1 2 := by
    rw [hfo.1 1 (by omega), hP.2.1.2.2.1, hP.1.2.2.2.2.1]; exact jlt_n (by omega) (by omega)
  rw [he, L_m_flaps_4, if_neg hlt]
