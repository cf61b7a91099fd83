-- THE START OF A STATE: the class
theorem S_j_fill_s1 {D j : Nat} {v : Int32} {f : Nat → Int32} {g : Nat → Nat → Int32} {n2 : Nat → Nat → Int64} {p : Nat → Nat → Int32} {pa : Nat → Nat → Nat → Int32} {s : Nat → Nat → Int32} {sa : Nat → Nat → Nat → Int32} {sw : Bool} {rp : Value} {t : List jE} {z : Nat × Nat × Nat × (Nat → Int32)} (hj : j < 3) : K_j_fill_s1 D j v f g n2 p pa s sa sw rp t z = some (.inl none, (jX f g n2 p pa s (jup sa j (jup (sa j) 1 (jfil v 12 (sa j 1)))) sw rp t, z)) := by
  rw [E_j_fill_s1 hj]
  have key : ∀ k, k ≤ 12 → K_j_fill_s1_5 D j v 0 (Int32.ofNat 12) f g n2 p pa s sa sw rp t z = K_j_fill_s1_5 D j v (Int32.ofNat k) (Int32.ofNat 12) f g n2 p pa s (jup sa j (jup (sa j) 1 (jfil v k (sa j 1)))) sw rp t z := by
    intro k
    induction k with
    | zero =>
      intro _
      have : jfil v 0 (sa j 1) = sa j 1 := by funext i; simp [jfil]
      rw [this, jup_self, jup_self]; rfl
    | succ k ih =>
      intro hk
      have hx : jup (jfil v k (sa j 1)) k v = jfil v (k + 1) (sa j 1) := by
        funext i
        by_cases h : i = k
        · subst h; simp [jup, jfil]
        · by_cases h2 : i < k
          · simp [jup, jfil, h, h2, show i < k + 1 by omega]
          · simp [jup, jfil, h, h2, show ¬ i < k + 1 by omega]
      rw [ih (by omega), L_j_fill_s1_5 hj]
      simp (disch := omega) only [jltn, jout_f, jclamp, if_false, jup_same, jup_jup, jsucc, hx]
      rw [if_pos (by omega)]
  rw [key 12 (Nat.le_refl 12), L_j_fill_s1_5 hj]
  simp (disch := omega) only [jltn]
  rw [if_neg (by omega)]
def jbcr (qa : Nat → Nat → Int32) (C k : Nat) (h : Nat → Int32) : Nat → Int32 := fun i => if i < k then (if i < C then qa 0 i else 0) else h i
def jbeg (qa : Nat → Nat → Int32) (C : Nat) (A : jS) : jS :=
  (jup (jup (jup (jup (jup (jup A.1 0 0) 1 0) 2 0) 3 0) 4 0) 5 0,
   jup (jup (jup (jup (jup A.2 0 (jbcr qa C 30 (A.2 0))) 2 (jcpy (qa 6) (A.2 2) 0 0 6)) 3 (jcpy (qa 5) (A.2 3) 0 0 6)) 1 (jfil 0 12 (A.2 1))) 4 (jfil 0 6 (A.2 4)))
theorem S_s_begin {D j C : Nat} {w : Bool} {f : Nat → Int32} {g : Nat → Nat → Int32} {n2 : Nat → Nat → Int64} {p : Nat → Nat → Int32} {pa : Nat → Nat → Nat → Int32} {s : Nat → Nat → Int32} {sa : Nat → Nat → Nat → Int32} {sw : Bool} {rp : Value} {t : List jE} {z : Nat × Nat × Nat × (Nat → Int32)} (hj : j < 3) (hC : p (jq w) 1 * p (jq w) 2 = Int32.ofNat C) (hn : C ≤ 30) : K_s_begin D j w f g n2 p pa s sa sw rp t z = some (.inl none, (jX f g n2 p pa (jup s j (jbeg (pa (jq w)) C (s j, sa j)).1) (jup sa j (jbeg (pa (jq w)) C (s j, sa j)).2) sw rp t, z)) := by
  have key : ∀ k, k ≤ 30 → ∀ s', K_s_begin_8 D j w 0 f g n2 p pa s' sa sw rp t z = K_s_begin_8 D j w (Int32.ofNat k) f g n2 p pa s' (jup sa j (jup (sa j) 0 (jbcr (pa (jq w)) C k (sa j 0)))) sw rp t z := by
    intro k
    induction k with
    | zero =>
      intro _ s'
      have : jbcr (pa (jq w)) C 0 (sa j 0) = sa j 0 := by funext i; simp [jbcr]
      rw [this, jup_self, jup_self]; rfl
    | succ k ih =>
      intro hk s'
      have hlt : Int32.ofNat k < 30 := jlt_t (b := 30) (by omega) (by omega)
      have hx : jup (jbcr (pa (jq w)) C k (sa j 0)) k (if k < C then pa (jq w) 0 k else 0) = jbcr (pa (jq w)) C (k + 1) (sa j 0) := by
        funext i
        by_cases h : i = k
        · subst h; simp [jup, jbcr]
        · by_cases h2 : i < k
          · simp [jup, jbcr, h, h2, show i < k + 1 by omega]
          · simp [jup, jbcr, h, h2, show ¬ i < k + 1 by omega]
      rw [ih (by omega) s', L_s_begin_8 hj, if_pos hlt, S_p_hasCell hC hn]
      by_cases hkC : k < C
      · rw [if_pos hkC] at hx
        rw [if_neg (jout_n hkC (by omega))]
        simp +decide (disch := omega) only [jbO_some, jbO_none, jbO_ite, jk_some, jk_none, E_s_begin_17 hj, E_s_begin_24 hj, if_false, jout_f, jclamp, jup_same, jup_jup, jsucc, hx]
      · rw [if_neg hkC] at hx
        rw [if_pos (jout_y (by omega) (by omega))]
        simp +decide (disch := omega) only [jbO_some, jbO_none, jbO_ite, jk_some, jk_none, E_s_begin_17 hj, E_s_begin_24 hj, if_false, if_true, jout_f, jclamp, jup_same, jup_jup, jsucc, hx]
  rw [E_s_begin hj, key 30 (Nat.le_refl 30), L_s_begin_8 hj, if_neg (by decide)]
  rw [S_j_fill_s1 hj]
  simp only [jbO_some, jbO_none, jbO_ite, jk_some, jk_none, E_s_begin_47 hj]
  rw [S_j_fill_s4 hj]
  simp only [jbO_some, jbO_none, jbO_ite, jk_some, jk_none, E_s_begin_51 hj, jup_same, jup_jup]
  simp (disch := omega) only [jup_ne, jup_same]
  rfl
