-- CALL BY CALL: allSeen
theorem rAt_g {C Sc F : Nat} {q : Nat → Int32} {qa : Nat → Nat → Int32} {S : jS} {e0 p0 c0 : Int32} {f : Nat → Int32} {g g' : Nat → Nat → Int32} (h : rAt q qa C Sc S e0 p0 c0 F f g) (hg : ∀ k, k < 26 → g' k = g k) : rAt q qa C Sc S e0 p0 c0 F f g' := by
  obtain ⟨a1, a2, a3, a4, a5, a6⟩ := h
  refine ⟨a1, rPl_congr a2 (fun k hk => hg k (by omega)), ?_, a4, a5, a6⟩
  unfold rSt at a3 ⊢
  rw [hg 14 (by omega), hg 15 (by omega), hg 16 (by omega), hg 17 (by omega), hg 18 (by omega), hg 19 (by omega), hg 20 (by omega), hg 21 (by omega), hg 22 (by omega), hg 23 (by omega), hg 24 (by omega)]
  exact a3
theorem mwnd_g' {f : Nat → Int32} {g g' : Nat → Nat → Int32} {d : Int32} (hg : ∀ k, k < 26 → g' k = g k) : mwnd f g' d = mwnd f g d := by
  unfold mwnd; rw [hg 1 (by omega), hg 9 (by omega), hg 25 (by omega)]
theorem jq1.hi {g g' : Nat → Nat → Int32} (h : ∀ k, k < 25 ∨ 30 ≤ k → g' k = g k) : jq1 g g' :=
  ⟨fun k hk => h k (by omega), fun k h1 h2 i _ => by rw [h k (by omega)], fun i _ => by rw [h 20 (by omega)], fun i _ => by rw [h 21 (by omega)], fun k h1 h2 i _ => by rw [h k (by omega)]⟩
/-- what a set of scares sees -/
def jcov (v : Nat → Int32) (m : Int32) : Nat → Int32
  | 0 => 0
  | k + 1 => if bt m k then jcov v m k ||| v k else jcov v m k
theorem jcov_congr {v w : Nat → Int32} {m : Int32} : ∀ {k : Nat}, (∀ i, i < k → v i = w i) → jcov v m k = jcov w m k
  | 0, _ => rfl
  | k + 1, h => by rw [jcov, jcov, jcov_congr (fun i hi => h i (by omega)), h k (by omega)]
def jbest (rip : Int32) (v : Nat → Int32) (Sc : Nat) : Nat → Int32
  | 0 => -2
  | m + 1 => if (rip &&& (jcov v (Int32.ofNat m) Sc ^^^ (-1))) = 0 then (if jbest rip v Sc m = -2 then Int32.ofNat m else if jpop (Int32.ofNat m) 30 < jpop (jbest rip v Sc m) 30 then Int32.ofNat m else jbest rip v Sc m) else jbest rip v Sc m
theorem jbest_rng {rip : Int32} {v : Nat → Int32} {Sc : Nat} : ∀ {m : Nat}, jbest rip v Sc m = -2 ∨ ∃ k, k < m ∧ jbest rip v Sc m = Int32.ofNat k
  | 0 => Or.inl rfl
  | m + 1 => by
    have ih := jbest_rng (rip := rip) (v := v) (Sc := Sc) (m := m)
    have ih2 : jbest rip v Sc m = -2 ∨ ∃ k, k < m + 1 ∧ jbest rip v Sc m = Int32.ofNat k := by
      rcases ih with h | ⟨k, hk, h⟩
      · exact Or.inl h
      · exact Or.inr ⟨k, by omega, h⟩
    unfold jbest
    split
    · split
      · exact Or.inr ⟨m, by omega, rfl⟩
      · split
        · exact Or.inr ⟨m, by omega, rfl⟩
        · exact ih2
    · exact ih2
theorem jbest_congr {rip : Int32} {v w : Nat → Int32} {Sc : Nat} (h : ∀ i, i < Sc → v i = w i) : ∀ {m : Nat}, jbest rip v Sc m = jbest rip w Sc m
  | 0 => rfl
  | m + 1 => by rw [jbest, jbest, jbest_congr h, jcov_congr h]
theorem jpow2 : ∀ n, n < 7 → (1 : Int32) <<< (Int32.ofNat n &&& 31) = Int32.ofNat (2 ^ n) := by decide +kernel
theorem jpow2_le {n : Nat} (h : n ≤ 6) : 2 ^ n ≤ 64 := by
  have := Nat.pow_le_pow_right (show 0 < 2 by omega) h
  simpa using this
theorem S_c_look {D : Nat} {C Sc : Nat} {f : Nat → Int32} {g : Nat → Nat → Int32} {n2 : Nat → Nat → Int64} {p : Nat → Nat → Int32} {pa : Nat → Nat → Nat → Int32} {s : Nat → Nat → Int32} {sa : Nat → Nat → Nat → Int32} {sw : Bool} {rp : Value} {t : List jE} {z : Nat × Nat × Nat × (Nat → Int32)} (hPl : jPl (p (jq sw)) (pa (jq sw)) C Sc) (hm : f 15 < 0) :
    ∃ n2' v, K_c_look D f g n2 p pa s sa sw rp t z = some (.inl none, (jX f (jup g 12 v) n2' p pa s sa sw rp t, z)) ∧ ∀ i, i < Sc → v i = jset (csees f (p (jq sw)) (pa (jq sw)) (s 0) (sa 0) (cwnd f (g 2) (p (jq sw)) (pa (jq sw)) (s 0 0)) i) C := by
  have hPl2 := hPl
  obtain ⟨hC, hC30, hC1, h1, hS, hS6, -⟩ := hPl
  have key : ∀ k, k ≤ Sc → ∃ n2' v, K_c_look_2 D 0 f g n2 p pa s sa sw rp t z = K_c_look_2 D (Int32.ofNat k) f (jup g 12 v) n2' p pa s sa sw rp t z ∧ ∀ i, i < k → v i = jset (csees f (p (jq sw)) (pa (jq sw)) (s 0) (sa 0) (cwnd f (g 2) (p (jq sw)) (pa (jq sw)) (s 0 0)) i) C := by
    intro k
    induction k with
    | zero => intro _; exact ⟨n2, g 12, by rw [jup_self]; rfl, fun i hi => absurd hi (by omega)⟩
    | succ k ih =>
      intro hk
      obtain ⟨n2', v, he, hv⟩ := ih (by omega)
      obtain ⟨nm, st, hs⟩ := S_h_seenBy0 (D := D) (j := 0) (i := k) (f := f) (g := jup g 12 v) (n2 := n2') (p := p) (pa := pa) (s := s) (sa := sa) (sw := sw) (rp := rp) (t := t) (z := z) (by omega) (by omega) hPl2 hm
      rw [jup_ne (by omega)] at hs
      refine ⟨jup (jup n2' 0 nm) 1 st, jup v k (jset (csees f (p (jq sw)) (pa (jq sw)) (s 0) (sa 0) (cwnd f (g 2) (p (jq sw)) (pa (jq sw)) (s 0 0)) k) C), ?_, ?_⟩
      · rw [he, L_c_look_2, hS, if_pos (jlt_t (by omega) (by omega)), hs]
        simp (disch := omega) only [jbO_some, jbO_none, jbO_ite, jk_some, jk_none, E_c_look_16, jout_f, if_false, jclamp, jup_same, jup_jup, jsucc]
      · intro i hi
        by_cases hik : i = k
        · subst hik; rw [jup_same]
        · rw [jup_ne hik]; exact hv i (by omega)
  obtain ⟨n2', v, he, hv⟩ := key Sc (Nat.le_refl Sc)
  refine ⟨n2', v, ?_, hv⟩
  rw [E_c_look, he, L_c_look_2, hS, if_neg (jlt_n (by omega) (by omega))]
theorem S_allSeen_10 {D : Nat} {Sc : Nat} {rip : Int32} {d4 d5 : Option Value} {f : Nat → Int32} {g : Nat → Nat → Int32} {n2 : Nat → Nat → Int64} {p : Nat → Nat → Int32} {pa : Nat → Nat → Nat → Int32} {s : Nat → Nat → Int32} {sa : Nat → Nat → Nat → Int32} {sw : Bool} {rp : Value} {t : List jE} {z : Nat × Nat × Nat × (Nat → Int32)} (hS : p (jq sw) 3 = Int32.ofNat Sc) (hS6 : Sc ≤ 6) :
    K_c_allSeen_10 D rip (-2) 0 d4 d5 f g n2 p pa s sa sw rp t z = some (.inl (some (.int (jbest rip (g 12) Sc (2 ^ Sc)))), (jX f g n2 p pa s sa sw rp t, z)) := by
  have h64 := jpow2_le hS6
  have inner : ∀ (m : Nat) (x2 : Int32), K_c_allSeen_21 D rip x2 (Int32.ofNat m) 0 0 f g n2 p pa s sa sw rp t z = K_c_allSeen_21 D rip x2 (Int32.ofNat m) (jcov (g 12) (Int32.ofNat m) Sc) (Int32.ofNat Sc) f g n2 p pa s sa sw rp t z := by
    intro m x2
    have key : ∀ k, k ≤ Sc → K_c_allSeen_21 D rip x2 (Int32.ofNat m) 0 0 f g n2 p pa s sa sw rp t z = K_c_allSeen_21 D rip x2 (Int32.ofNat m) (jcov (g 12) (Int32.ofNat m) k) (Int32.ofNat k) f g n2 p pa s sa sw rp t z := by
      intro k
      induction k with
      | zero => intro _; rfl
      | succ k ih =>
        intro hk
        rw [ih (by omega), L_c_allSeen_21, hS, if_pos (jlt_t (by omega) (by omega))]
        simp (disch := omega) only [jbit0, E_c_allSeen_39, jsucc, jout_f, if_false, jclamp, jcov]
        cases bt (Int32.ofNat m) k <;> simp
    exact key Sc (Nat.le_refl Sc)
  have key : ∀ m, m ≤ 2 ^ Sc → ∃ d4' d5', K_c_allSeen_10 D rip (-2) 0 d4 d5 f g n2 p pa s sa sw rp t z = K_c_allSeen_10 D rip (jbest rip (g 12) Sc m) (Int32.ofNat m) d4' d5' f g n2 p pa s sa sw rp t z := by
    intro m
    induction m with
    | zero => intro _; exact ⟨d4, d5, rfl⟩
    | succ m ih =>
      intro hm
      obtain ⟨d4', d5', he⟩ := ih (by omega)
      have hlt : Int32.ofNat m < Int32.ofNat (2 ^ Sc) := jlt_t (by omega) (by omega)
      rw [he, L_c_allSeen_10, hS, jpow2 Sc (by omega), if_pos hlt, inner, L_c_allSeen_21, hS, if_neg (jlt_n (by omega) (by omega))]
      rcases jbest_rng (rip := rip) (v := g 12) (Sc := Sc) (m := m) with hb | ⟨k, hk, hb⟩
      · rw [if_pos hb]
        simp +decide only [E_c_allSeen_49, E_c_allSeen_52, E_c_allSeen_63, jsucc, jbest, hb, if_true, if_false]
        split
        · exact ⟨_, _, rfl⟩
        · exact ⟨_, _, rfl⟩
      · have hne : ¬ jbest rip (g 12) Sc m = -2 := by
          intro e; rw [hb] at e
          exact absurd (show Int32.ofNat k < 0 by rw [e]; decide) (jnonneg (by omega))
        rw [if_neg hne]
        simp (disch := omega) only [hb, S_j_bitCount, jbO_some, jbO_none, jbO_ite, jk_some, jk_none, E_c_allSeen_46, E_c_allSeen_48]
        simp +decide only [E_c_allSeen_49, E_c_allSeen_52, E_c_allSeen_63, jsucc, jbest, hb, hne, if_true, if_false]
        rw [hb] at hne
        by_cases hp : jpop (Int32.ofNat m) 30 < jpop (Int32.ofNat k) 30
        · simp only [if_pos hp, if_neg hne]
          split
          · exact ⟨_, _, rfl⟩
          · exact ⟨_, _, rfl⟩
        · simp only [if_neg hp, if_neg hne]
          split
          · exact ⟨_, _, rfl⟩
          · exact ⟨_, _, rfl⟩
  obtain ⟨d4', d5', he⟩ := key (2 ^ Sc) (Nat.le_refl _)
  rw [he, L_c_allSeen_10, hS, jpow2 Sc (by omega), if_neg (jlt_n (by omega) (by omega))]
theorem M_allSeen_71 {D : Nat} {Sc : Nat} {rip : Int32} {d4 d5 : Option Value} {cx : jCX} {f : Nat → Int32} {g : Nat → Nat → Int32} {n : Nat → Nat → Int64} {b : Nat → Nat → Int32} {l : Nat → Int64} {t : List jE} {z : Nat × Nat × Nat × (Nat → Int32)} (hS : g 1 2 = Int32.ofNat Sc) (hS6 : Sc ≤ 6) :
    K_m_allSeen_71 D rip (-2) 0 d4 d5 cx f g n b l t z = some (.inl (some (.int (jbest rip (g 26) Sc (2 ^ Sc)))), (jXt cx (jY f g n b l t), z)) := by
  have h64 := jpow2_le hS6
  have inner : ∀ (m : Nat) (x2 : Int32), K_m_allSeen_83 D rip x2 (Int32.ofNat m) 0 0 cx f g n b l t z = K_m_allSeen_83 D rip x2 (Int32.ofNat m) (jcov (g 26) (Int32.ofNat m) Sc) (Int32.ofNat Sc) cx f g n b l t z := by
    intro m x2
    have key : ∀ k, k ≤ Sc → K_m_allSeen_83 D rip x2 (Int32.ofNat m) 0 0 cx f g n b l t z = K_m_allSeen_83 D rip x2 (Int32.ofNat m) (jcov (g 26) (Int32.ofNat m) k) (Int32.ofNat k) cx f g n b l t z := by
      intro k
      induction k with
      | zero => intro _; rfl
      | succ k ih =>
        intro hk
        rw [ih (by omega), L_m_allSeen_83, hS, if_pos (jlt_t (by omega) (by omega))]
        simp (disch := omega) only [jbit10, E_m_allSeen_103, jsucc, jout_f, if_false, jclamp, jcov]
        cases bt (Int32.ofNat m) k <;> simp
    exact key Sc (Nat.le_refl Sc)
  have key : ∀ m, m ≤ 2 ^ Sc → ∃ d4' d5', K_m_allSeen_71 D rip (-2) 0 d4 d5 cx f g n b l t z = K_m_allSeen_71 D rip (jbest rip (g 26) Sc m) (Int32.ofNat m) d4' d5' cx f g n b l t z := by
    intro m
    induction m with
    | zero => intro _; exact ⟨d4, d5, rfl⟩
    | succ m ih =>
      intro hm
      obtain ⟨d4', d5', he⟩ := ih (by omega)
      have hlt : Int32.ofNat m < Int32.ofNat (2 ^ Sc) := jlt_t (by omega) (by omega)
      rw [he, L_m_allSeen_71, hS, jpow2 Sc (by omega), if_pos hlt, inner, L_m_allSeen_83, hS, if_neg (jlt_n (by omega) (by omega))]
      rcases jbest_rng (rip := rip) (v := g 26) (Sc := Sc) (m := m) with hb | ⟨k, hk, hb⟩
      · simp +decide only [E_m_allSeen_120, E_m_allSeen_122, jsucc, jbest, hb, if_true, if_false]
        split
        · exact ⟨_, _, rfl⟩
        · exact ⟨_, _, rfl⟩
      · have hne : ¬ jbest rip (g 26) Sc m = -2 := by
          intro e; rw [hb] at e
          exact absurd (show Int32.ofNat k < 0 by rw [e]; decide) (jnonneg (by omega))
        have hn0 : ¬ Int32.ofNat k < 0 := jnonneg (by omega)
        simp only [jbest, hb, hn0, if_false, M_bitsOf, jbO_some, jbO_none, jbO_ite, jk_some, jk_none, E_m_allSeen_117, E_m_allSeen_119, E_m_allSeen_120, E_m_allSeen_122, jsucc]
        rw [hb] at hne
        simp only [hne, if_false]
        split
        · split
          · exact ⟨_, _, rfl⟩
          · exact ⟨_, _, rfl⟩
        · exact ⟨_, _, rfl⟩
  obtain ⟨d4', d5', he⟩ := key (2 ^ Sc) (Nat.le_refl _)
  rw [he, L_m_allSeen_71, hS, jpow2 Sc (by omega), if_neg (jlt_n (by omega) (by omega))]
