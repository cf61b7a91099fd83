-- THE START OF A STATE: the reference
theorem M_starts {D F : Nat} {C Sc : Nat} {q : Nat → Int32} {qa : Nat → Nat → Int32} {A : jS} {tw : Int32} {cx : jCX} {f : Nat → Int32} {g : Nat → Nat → Int32} {n : Nat → Nat → Int64} {b : Nat → Nat → Int32} {l : Nat → Int64} {t : List jE} {z : Nat × Nat × Nat × (Nat → Int32)} (hF : F < 23) (hP : rPl q qa C Sc g) (htw : ¬ tw = 1) :
    ∃ g', K_m_starts D (Int32.ofNat F) cx f g n b l t z = some (.inl none, (jXt cx (jY f g' n b l t), z)) ∧ jfo F g g' ∧ g' 19 F = 0 ∧ rSt C Sc (jbeg qa C A) 0 0 0 tw F g' := by
  have hC : C ≤ 30 := hP.1.2.1
  have hS6 : Sc ≤ 6 := hP.1.2.2.2.2.2.1
  have h12 : g 1 2 = Int32.ofNat Sc := hP.2.1.2.2.1.trans hP.1.2.2.2.2.1
  have hjF : ¬ jout (Int32.ofNat F) 23 := jout_n hF (by omega)
  have hcl : (Int32.ofNat F).toNatClampNeg = F := jclamp (by omega)
  let g1 : Nat → Nat → Int32 := jup (jup (jup (jup (jup (jup g 14 (jup (g 14) F 0)) 15 (jup (g 15) F 0)) 16 (jup (g 16) F 0)) 17 (jup (g 17) F 0)) 18 (jup (g 18) F 0)) 19 (jup (g 19) F 0)
  have s1 : K_m_starts D (Int32.ofNat F) cx f g n b l t z = K_m_starts_32 D (Int32.ofNat F) 0 cx f g1 n b l t z := by
    rw [E_m_starts, if_neg hjF, E_m_starts_9, if_neg hjF, E_m_starts_14, if_neg hjF, E_m_starts_19, if_neg hjF, E_m_starts_24, if_neg hjF, E_m_starts_29, if_neg hjF, hcl]
    simp (disch := omega) only [jup_ne]
    rfl
  have hlow : ∀ v x, x < 14 → jup g1 20 v x = g x := by
    intro v x hx
    show jup (jup (jup (jup (jup (jup (jup g 14 (jup (g 14) F 0)) 15 (jup (g 15) F 0)) 16 (jup (g 16) F 0)) 17 (jup (g 17) F 0)) 18 (jup (g 18) F 0)) 19 (jup (g 19) F 0)) 20 v x = g x
    simp (disch := omega) only [jup_ne]
  have hlow1 : ∀ x, x < 14 ∨ 20 ≤ x → g1 x = g x := by
    intro x hx
    show jup (jup (jup (jup (jup (jup g 14 (jup (g 14) F 0)) 15 (jup (g 15) F 0)) 16 (jup (g 16) F 0)) 17 (jup (g 17) F 0)) 18 (jup (g 18) F 0)) 19 (jup (g 19) F 0) x = g x
    simp (disch := omega) only [jup_ne]
  -- the crops
  have key1 : ∀ k, k ≤ C → ∃ v, K_m_starts_32 D (Int32.ofNat F) 0 cx f g1 n b l t z = K_m_starts_32 D (Int32.ofNat F) (Int32.ofNat k) cx f (jup g1 20 v) n b l t z ∧ (∀ i, i < 30 * F ∨ 30 * F + 30 ≤ i → v i = g 20 i) ∧ ∀ c, c < k → v (30 * F + c) = qa 0 c := by
    intro k
    induction k with
    | zero => intro _; exact ⟨g1 20, by rw [jup_self]; rfl, fun i _ => by rw [hlow1 20 (by omega)], fun c hc => absurd hc (Nat.not_lt_zero c)⟩
    | succ k ih =>
      intro hk
      obtain ⟨v, he, hv1, hv2⟩ := ih (by omega)
      have hlt : Int32.ofNat k < Int32.ofNat C := jlt_t (by omega) (by omega)
      have hidx : (30 : Int32) * Int32.ofNat F + Int32.ofNat k = Int32.ofNat (30 * F + k) := by rw [jofmullr, jofadd]
      have hq0 := hP.2.2.1 k (by omega)
      have h2k : (jup g1 20 v) 2 k = g 2 k := by rw [hlow v 2 (by omega)]
      refine ⟨jup v (30 * F + k) (qa 0 k), ?_, ?_, ?_⟩
      · rw [he, L_m_starts_32, M_cells (rPl_congr hP (fun x hx => hlow v x hx))]
        simp (disch := omega) only [jbO_some, jbO_none, jbO_ite, jk_some, jk_none, E_m_starts_35, hlt, if_true, jout_f, if_false, jclamp, h2k, E_m_starts_56, hidx, jup_same, jup_jup, jsucc]
        by_cases hpos : 0 < g 2 k
        · rw [if_pos hpos] at hq0 ⊢; rw [hq0]
        · rw [if_neg hpos] at hq0 ⊢; rw [hq0]
      · intro i hi; rw [jup_ne (by omega)]; exact hv1 i hi
      · intro c hc
        by_cases hck : c = k
        · subst hck; rw [jup_same]
        · rw [jup_ne (by omega)]; exact hv2 c (by omega)
  obtain ⟨v20, e1, v20o, v20i⟩ := key1 C (Nat.le_refl C)
  have s2 : K_m_starts D (Int32.ofNat F) cx f g n b l t z = K_m_starts_61 D (Int32.ofNat F) 0 cx f (jup g1 20 v20) n b l t z := by
    rw [s1, e1, L_m_starts_32, M_cells (rPl_congr hP (fun x hx => hlow v20 x hx))]
    simp only [jbO_some, jbO_none, jbO_ite, jk_some, jk_none, E_m_starts_35, show ¬ (Int32.ofNat C < Int32.ofNat C) from jlt_n (by omega) (by omega), if_false]
  -- the hours
  have key2 : ∀ k, k ≤ 12 → ∃ v, K_m_starts_61 D (Int32.ofNat F) 0 cx f (jup g1 20 v20) n b l t z = K_m_starts_61 D (Int32.ofNat F) (Int32.ofNat k) cx f (jup (jup g1 20 v20) 21 v) n b l t z ∧ (∀ i, i < 12 * F ∨ 12 * F + 12 ≤ i → v i = g 21 i) ∧ ∀ c, c < k → v (12 * F + c) = 0 := by
    intro k
    induction k with
    | zero => intro _; exact ⟨(jup g1 20 v20) 21, by rw [jup_self]; rfl, fun i _ => by rw [jup_ne (by omega), hlow1 21 (by omega)], fun c hc => absurd hc (Nat.not_lt_zero c)⟩
    | succ k ih =>
      intro hk
      obtain ⟨v, he, hv1, hv2⟩ := ih (by omega)
      have hlt : Int32.ofNat k < 12 := jlt_t (b := 12) (by omega) (by omega)
      have hidx : (12 : Int32) * Int32.ofNat F + Int32.ofNat k = Int32.ofNat (12 * F + k) := by rw [jofmullr, jofadd]
      refine ⟨jup v (12 * F + k) 0, ?_, ?_, ?_⟩
      · rw [he, L_m_starts_61, if_pos hlt, hidx, E_m_starts_72, if_neg (jout_n (by omega) (by omega)), jclamp (by omega), jup_same, jup_jup, jsucc]
      · intro i hi; rw [jup_ne (by omega)]; exact hv1 i hi
      · intro c hc
        by_cases hck : c = k
        · subst hck; rw [jup_same]
        · rw [jup_ne (by omega)]; exact hv2 c (by omega)
  obtain ⟨v21, e2, v21o, v21i⟩ := key2 12 (Nat.le_refl 12)
  -- the scares
  let g2 : Nat → Nat → Int32 := jup (jup g1 20 v20) 21 v21
  have hg2 : ∀ x, x < 14 ∨ 22 ≤ x → g2 x = g x := by
    intro x hx
    show jup (jup g1 20 v20) 21 v21 x = g x
    rw [jup_ne (by omega), jup_ne (by omega)]; exact hlow1 x (by omega)
  have key3 : ∀ k, k ≤ Sc → ∃ u v w, K_m_starts_77 D (Int32.ofNat F) 0 cx f g2 n b l t z = K_m_starts_77 D (Int32.ofNat F) (Int32.ofNat k) cx f (jup (jup (jup g2 22 u) 23 v) 24 w) n b l t z ∧ (∀ i, i < 6 * F ∨ 6 * F + 6 ≤ i → u i = g 22 i ∧ v i = g 23 i ∧ w i = g 24 i) ∧ ∀ c, c < k → u (6 * F + c) = 0 ∧ v (6 * F + c) = qa 6 c ∧ w (6 * F + c) = qa 5 c := by
    intro k
    induction k with
    | zero =>
      intro _
      refine ⟨g2 22, g2 23, g2 24, ?_, fun i _ => ⟨by rw [hg2 22 (by omega)], by rw [hg2 23 (by omega)], by rw [hg2 24 (by omega)]⟩, fun c hc => absurd hc (Nat.not_lt_zero c)⟩
      rw [jup_self, jup_self, jup_self]; rfl
    | succ k ih =>
      intro hk
      obtain ⟨u, v, w, he, hv1, hv2⟩ := ih (by omega)
      have hlt : Int32.ofNat k < Int32.ofNat Sc := jlt_t (by omega) (by omega)
      have hidx : (6 : Int32) * Int32.ofNat F + Int32.ofNat k = Int32.ofNat (6 * F + k) := by rw [jofmullr, jofadd]
      obtain ⟨-, -, -, -, h7, h8⟩ := hP.2.2.2.1 k (by omega)
      refine ⟨jup u (6 * F + k) 0, jup v (6 * F + k) (qa 6 k), jup w (6 * F + k) (qa 5 k), ?_, ?_, ?_⟩
      · have h12' : (jup (jup (jup g2 22 u) 23 v) 24 w) 1 2 = Int32.ofNat Sc := by rw [jup_ne (by omega), jup_ne (by omega), jup_ne (by omega), hg2 1 (by omega)]; exact h12
        have hj1 : ¬ jout (Int32.ofNat (6 * F + k)) 138 := jout_n (by omega) (by omega)
        have hj2 : ¬ jout (Int32.ofNat k) 12 := jout_n (by omega) (by omega)
        have c1 : (Int32.ofNat (6 * F + k)).toNatClampNeg = 6 * F + k := jclamp (by omega)
        have c2 : (Int32.ofNat k).toNatClampNeg = k := jclamp (by omega)
        rw [he, L_m_starts_77, h12', if_pos hlt, hidx, E_m_starts_91, if_neg hj1, if_neg hj2, c1, c2, hidx, E_m_starts_103, if_neg hj1, if_neg hj2, c1, c2, hidx, E_m_starts_115, if_neg hj1, c1, jsucc]
        have x8 : (jup (jup (jup g2 22 u) 23 v) 24 w) 8 k = qa 6 k := by
          rw [jup_ne (by omega), jup_ne (by omega), jup_ne (by omega), hg2 8 (by omega)]; exact h8
        have x7 : ∀ G : Nat → Int32, (jup (jup (jup (jup g2 22 u) 23 v) 24 w) 22 G) 7 k = qa 5 k := by
          intro G
          rw [jup_ne (by omega), jup_ne (by omega), jup_ne (by omega), jup_ne (by omega), hg2 7 (by omega)]; exact h7
        simp only [x7, x8]
        congr 1
        funext x
        by_cases hx24 : x = 24
        · subst hx24; rw [jup_same, jup_same]; simp (disch := omega) only [jup_ne, jup_same]
        · rw [jup_ne hx24, jup_ne hx24]
          by_cases hx23 : x = 23
          · subst hx23; rw [jup_same, jup_same]; simp (disch := omega) only [jup_ne, jup_same]
          · rw [jup_ne hx23, jup_ne hx23]
            by_cases hx22 : x = 22
            · subst hx22; rw [jup_same, jup_same]; simp (disch := omega) only [jup_ne, jup_same]
            · rw [jup_ne hx22, jup_ne hx24, jup_ne hx23, jup_ne hx22, jup_ne hx22]
      · intro i hi; rw [jup_ne (by omega), jup_ne (by omega), jup_ne (by omega)]; exact hv1 i hi
      · intro c hc
        by_cases hck : c = k
        · subst hck; rw [jup_same, jup_same, jup_same]; exact ⟨rfl, rfl, rfl⟩
        · rw [jup_ne (by omega), jup_ne (by omega), jup_ne (by omega)]; exact hv2 c (by omega)
  obtain ⟨u22, v23, w24, e3, o3, i3⟩ := key3 Sc (Nat.le_refl Sc)
  have hg1 : ∀ x, 14 ≤ x → x < 20 → g1 x = jup (g x) F 0 := by
    intro x h1 h2
    show jup (jup (jup (jup (jup (jup g 14 (jup (g 14) F 0)) 15 (jup (g 15) F 0)) 16 (jup (g 16) F 0)) 17 (jup (g 17) F 0)) 18 (jup (g 18) F 0)) 19 (jup (g 19) F 0) x = jup (g x) F 0
    rcases (show x = 14 ∨ x = 15 ∨ x = 16 ∨ x = 17 ∨ x = 18 ∨ x = 19 by omega) with rfl | rfl | rfl | rfl | rfl | rfl <;> simp (disch := omega) only [jup_ne, jup_same]
  have hgx : ∀ x, x < 22 ∨ 25 ≤ x → jup (jup (jup g2 22 u22) 23 v23) 24 w24 x = g2 x := by
    intro x hx; rw [jup_ne (by omega), jup_ne (by omega), jup_ne (by omega)]
  have hgm : ∀ x, 14 ≤ x → x < 20 → jup (jup (jup g2 22 u22) 23 v23) 24 w24 x = jup (g x) F 0 := by
    intro x h1 h2
    rw [hgx x (by omega)]
    show jup (jup g1 20 v20) 21 v21 x = jup (g x) F 0
    rw [jup_ne (by omega), jup_ne (by omega)]
    exact hg1 x h1 h2
  have h20 : jup (jup (jup g2 22 u22) 23 v23) 24 w24 20 = v20 := by
    rw [hgx 20 (by omega)]
    show jup (jup g1 20 v20) 21 v21 20 = v20
    rw [jup_ne (by omega), jup_same]
  have h21 : jup (jup (jup g2 22 u22) 23 v23) 24 w24 21 = v21 := by
    rw [hgx 21 (by omega)]
    show jup (jup g1 20 v20) 21 v21 21 = v21
    rw [jup_same]
  have h22 : jup (jup (jup g2 22 u22) 23 v23) 24 w24 22 = u22 := by rw [jup_ne (by omega), jup_ne (by omega), jup_same]
  have h23 : jup (jup (jup g2 22 u22) 23 v23) 24 w24 23 = v23 := by rw [jup_ne (by omega), jup_same]
  have h24 : jup (jup (jup g2 22 u22) 23 v23) 24 w24 24 = w24 := jup_same
  refine ⟨jup (jup (jup g2 22 u22) 23 v23) 24 w24, ?_, ⟨?_, ?_, ?_, ?_, ?_⟩, ?_, ?_⟩
  · have h12' : (jup (jup (jup g2 22 u22) 23 v23) 24 w24) 1 2 = Int32.ofNat Sc := by rw [hgx 1 (by omega), hg2 1 (by omega)]; exact h12
    rw [s2, e2, L_m_starts_61, if_neg (by decide)]
    refine e3.trans ?_
    rw [L_m_starts_77, h12', if_neg (jlt_n (by omega) (by omega))]
  · intro k hk
    rw [hgx k (by omega), hg2 k (by omega)]
  · intro k h1 h2 i hi
    rw [hgm k h1 h2, jup_ne hi]
  · intro i hi; rw [h20]; exact v20o i hi
  · intro i hi; rw [h21]; exact v21o i hi
  · intro k h1 h2 i hi
    rcases (show k = 22 ∨ k = 23 ∨ k = 24 by omega) with rfl | rfl | rfl
    · rw [h22]; exact (o3 i hi).1
    · rw [h23]; exact (o3 i hi).2.1
    · rw [h24]; exact (o3 i hi).2.2
  · rw [hgm 19 (by omega) (by omega), jup_same]
  · unfold jbeg
    refine ⟨?_, ?_, ?_, ?_, ?_, ?_, ?_, ?_, ?_⟩ <;> dsimp only
    · rw [hgm 14 (by omega) (by omega), jup_same]; simp (disch := omega) only [jup_ne, jup_same]
    · rw [hgm 15 (by omega) (by omega), jup_same]; simp (disch := omega) only [jup_ne, jup_same]
    · rw [hgm 16 (by omega) (by omega), jup_same]; simp (disch := omega) only [jup_ne, jup_same]; decide
    · rw [hgm 17 (by omega) (by omega), jup_same]; simp (disch := omega) only [jup_ne, jup_same]; decide
    · rw [hgm 18 (by omega) (by omega), jup_same]; simp (disch := omega) only [jup_ne, jup_same]; decide
    · intro i hi
      rw [hgm 19 (by omega) (by omega), jup_same]
      simp (disch := omega) only [jup_ne, jup_same]
      rw [jbit10 (by omega), jbit0 (by omega), b_0]
      simp [htw]
    · intro c hc
      rw [h20, v20i c hc]
      simp (disch := omega) only [jup_ne, jup_same]
      unfold jbcr
      rw [if_pos (by omega), if_pos hc]
    · intro x hx
      rw [h21, v21i x hx]
      simp (disch := omega) only [jup_ne, jup_same]
      unfold jfil
      rw [if_pos hx]
    · intro i hi
      obtain ⟨w1, w2, w3⟩ := i3 i hi
      rw [h23, h24, h22, w1, w2, w3]
      simp (disch := omega) only [jup_ne, jup_same, jcpy_at]
      unfold jfil
      rw [if_pos (by omega)]
      exact ⟨trivial, trivial, rfl⟩
