-- TEXT: how both begin
theorem S_j_fill_p0 {D : Nat} {a1 : Int32} {w : Bool} {f : Nat → Int32} {g : Nat → Nat → Int32} {n2 : Nat → Nat → Int64} {p : Nat → Nat → Int32} {pa : Nat → Nat → Nat → Int32} {s : Nat → Nat → Int32} {sa : Nat → Nat → Nat → Int32} {sw : Bool} {rp : Value} {t : List jE} {z : Nat × Nat × Nat × (Nat → Int32)} : K_j_fill_p0 D w a1 f g n2 p pa s sa sw rp t z = some (.inl none, (jX f g n2 p (jup pa (jq w) (jup (pa (jq w)) 0 (jfil a1 30 (pa (jq w) 0)))) s sa sw rp t, z)) := by
  rw [E_j_fill_p0]
  have key : ∀ k, k ≤ 30 → K_j_fill_p0_5 D w a1 0 (Int32.ofNat 30) f g n2 p pa s sa sw rp t z = K_j_fill_p0_5 D w a1 (Int32.ofNat k) (Int32.ofNat 30) f g n2 p (jup pa (jq w) (jup (pa (jq w)) 0 (jfil a1 k (pa (jq w) 0)))) s sa sw rp t z := by
    intro k
    induction k with
    | zero =>
      intro _
      have : jfil a1 0 (pa (jq w) 0) = pa (jq w) 0 := by funext i; simp [jfil]
      rw [this, jup_self, jup_self]; rfl
    | succ k ih =>
      intro hk
      have hx : jup (jfil a1 k (pa (jq w) 0)) k a1 = jfil a1 (k + 1) (pa (jq w) 0) := by
        funext i
        by_cases h : i = k
        · subst h; simp [jup, jfil]
        · by_cases h2 : i < k
          · simp [jup, jfil, h, h2, show i < k + 1 by omega]
          · simp [jup, jfil, h, h2, show ¬ i < k + 1 by omega]
      rw [ih (by omega), L_j_fill_p0_5, if_pos (jlt_t (by omega) (by omega)), if_neg (jout_n (by omega) (by omega)), jclamp (show k < 2147483648 by omega), jup_same, jup_same, jup_jup, jup_jup, hx, jsucc]
  rw [key 30 (Nat.le_refl 30), L_j_fill_p0_5, if_neg (jlt_n (by omega) (by omega))]
/-- a plan cleared -/
def jclq (q : Nat → Int32) : Nat → Int32 := jup (jup (jup (jup (jup (jup (jup (jup (jup (jup (jup (jup (jup q 0 0) 1 5) 2 4) 10 0) 11 0) 12 0) 3 0) 4 0) 5 0) 6 12) 7 5) 8 10) 9 0
theorem S_p_clear {D : Nat} {w : Bool} {f : Nat → Int32} {g : Nat → Nat → Int32} {n2 : Nat → Nat → Int64} {p : Nat → Nat → Int32} {pa : Nat → Nat → Nat → Int32} {s : Nat → Nat → Int32} {sa : Nat → Nat → Nat → Int32} {sw : Bool} {rp : Value} {t : List jE} {z : Nat × Nat × Nat × (Nat → Int32)} : K_p_clear D w f g n2 p pa s sa sw rp t z = some (.inl none, (jX f g n2 (jup p (jq w) (jclq (p (jq w)))) (jup pa (jq w) (jup (pa (jq w)) 0 (jfil 10 30 (pa (jq w) 0)))) s sa sw rp t, z)) := by
  rw [E_p_clear, S_j_fill_p0, jbO_some, jk_none, E_p_clear_13, jup_same, jup_jup]
  rfl
def jini (k : Nat) : Int32 := if k = 0 ∨ k = 5 then 5 else if k = 1 then 4 else if k = 4 then 12 else if k = 7 then 10 else 0
theorem M_text_28 {D : Nat} {d1 : Option Value} {cx : jCX} {f : Nat → Int32} {g : Nat → Nat → Int32} {n : Nat → Nat → Int64} {b : Nat → Nat → Int32} {l : Nat → Int64} {t : List jE} {z : Nat × Nat × Nat × (Nat → Int32)} : K_m_text_28 D d1 0 cx f g n b l t z = K_m_text_61 D d1 30 cx f (jup g 1 (fun i => if 11 ≤ i ∧ i < 22 then jini (i - 11) else g 1 i)) n b l t z := by
  have key : ∀ k, k ≤ 11 → K_m_text_28 D d1 0 cx f g n b l t z = K_m_text_28 D d1 (Int32.ofNat k) cx f (jup g 1 (fun i => if 11 ≤ i ∧ i < 11 + k then jini (i - 11) else g 1 i)) n b l t z := by
    intro k
    induction k with
    | zero =>
      intro _
      have : (fun i => if 11 ≤ i ∧ i < 11 + 0 then jini (i - 11) else g 1 i) = g 1 := by funext i; rw [if_neg (by omega)]
      rw [this, jup_self]; rfl
    | succ k ih =>
      intro hk
      have hr : ∀ (gg : Nat → Nat → Int32) (v : Int32), jbO (K_m_reads D (Int32.ofNat k) v cx f gg n b l t z) (jk D 174 57 ([some (.ref 79), d1, some (.int (Int32.ofNat k))], []) []) = K_m_text_28 D d1 (Int32.ofNat (k + 1)) cx f (jup gg 1 (jup (gg 1) (11 + k) v)) n b l t z := by
        intro gg v
        rw [M_reads (by omega), jbO_some, jk_none, E_m_text_57, jsucc]
      have hv : K_m_text_28 D d1 (Int32.ofNat k) cx f (jup g 1 (fun i => if 11 ≤ i ∧ i < 11 + k then jini (i - 11) else g 1 i)) n b l t z = jbO (K_m_reads D (Int32.ofNat k) (jini k) cx f (jup g 1 (fun i => if 11 ≤ i ∧ i < 11 + k then jini (i - 11) else g 1 i)) n b l t z) (jk D 174 57 ([some (.ref 79), d1, some (.int (Int32.ofNat k))], []) []) := by
        rw [L_m_text_28]
        rcases (show k = 0 ∨ k = 1 ∨ k = 2 ∨ k = 3 ∨ k = 4 ∨ k = 5 ∨ k = 6 ∨ k = 7 ∨ k = 8 ∨ k = 9 ∨ k = 10 by omega) with rfl | rfl | rfl | rfl | rfl | rfl | rfl | rfl | rfl | rfl | rfl <;> simp +decide only [if_true, if_false, E_m_text_38, E_m_text_56] <;> rfl
      rw [ih (by omega), hv, hr, jup_same, jup_jup]
      congr 2
      funext i
      by_cases h : i = 11 + k
      · subst h; rw [jup_same, if_pos (by omega), show 11 + k - 11 = k by omega]
      · rw [jup_ne h]
        by_cases h2 : 11 ≤ i ∧ i < 11 + k
        · rw [if_pos h2, if_pos (by omega)]
        · rw [if_neg h2, if_neg (by omega)]
  rw [key 11 (Nat.le_refl 11), L_m_text_28, if_neg (by decide)]
theorem M_text_61 {D : Nat} {d1 : Option Value} {cx : jCX} {f : Nat → Int32} {g : Nat → Nat → Int32} {n : Nat → Nat → Int64} {b : Nat → Nat → Int32} {l : Nat → Int64} {t : List jE} {z : Nat × Nat × Nat × (Nat → Int32)} : K_m_text_61 D d1 30 cx f g n b l t z = K_m_text_73 D d1 3 cx f (jup g 2 (fun i => if 30 ≤ i ∧ i < 60 then 0 else g 2 i)) n b l t z := by
  have key : ∀ k, k ≤ 30 → K_m_text_61 D d1 30 cx f g n b l t z = K_m_text_61 D d1 (Int32.ofNat (30 + k)) cx f (jup g 2 (fun i => if 30 ≤ i ∧ i < 30 + k then 0 else g 2 i)) n b l t z := by
    intro k
    induction k with
    | zero =>
      intro _
      have : (fun i => if 30 ≤ i ∧ i < 30 + 0 then 0 else g 2 i) = g 2 := by funext i; rw [if_neg (by omega)]
      rw [this, jup_self]; rfl
    | succ k ih =>
      intro hk
      rw [ih (by omega), L_m_text_61, if_pos (show Int32.ofNat (30 + k) < 60 from jlt_t (b := 60) (by omega) (by omega)), if_neg (jout_n (by omega) (by omega)), jclamp (show 30 + k < 2147483648 by omega), jsucc, jup_same, jup_jup]
      congr 2
      funext i
      by_cases h : i = 30 + k
      · subst h; rw [jup_same, if_pos (by omega)]
      · rw [jup_ne h]
        by_cases h2 : 30 ≤ i ∧ i < 30 + k
        · rw [if_pos h2, if_pos (by omega)]
        · rw [if_neg h2, if_neg (by omega)]
  rw [key 30 (Nat.le_refl 30), L_m_text_61, if_neg (by decide)]
theorem M_text_73 {D : Nat} {d1 : Option Value} {cx : jCX} {f : Nat → Int32} {g : Nat → Nat → Int32} {n : Nat → Nat → Int64} {b : Nat → Nat → Int32} {l : Nat → Int64} {t : List jE} {z : Nat × Nat × Nat × (Nat → Int32)} : ∃ d2, K_m_text_73 D d1 3 cx f g n b l t z = jbO (K_m_token D cx (jup (jup (jup (jup f 13 0) 14 0) 2 0) 3 0) (jup (jup g 10 (jup (jup (jup (g 10) 3 0) 4 0) 5 0)) 11 (jup (jup (jup (g 11) 3 0) 4 0) 5 0)) n b l t z) (jk D 174 102 ([some (.ref 79), d1, d2], []) []) := by
  have st : ∀ (gg : Nat → Nat → Int32) (k : Nat), 3 ≤ k → k < 6 → K_m_text_73 D d1 (Int32.ofNat k) cx f gg n b l t z = K_m_text_73 D d1 (Int32.ofNat (k + 1)) cx f (jup (jup gg 10 (jup (gg 10) k 0)) 11 (jup (gg 11) k 0)) n b l t z := by
    intro gg k h1 h2
    rw [L_m_text_73, if_pos (show Int32.ofNat k < 6 from jlt_t (b := 6) h2 (by omega)), if_neg (jout_n (by omega) (by omega)), E_m_text_85, if_neg (jout_n (by omega) (by omega)), jclamp (show k < 2147483648 by omega), jsucc, jup_ne (show (11 : Nat) ≠ 10 by omega)]
  have s3 := st g 3 (by omega) (by omega)
  have s3' : K_m_text_73 D d1 3 cx f g n b l t z = _ := s3
  refine ⟨some (.int 6), ?_⟩
  rw [s3', st _ 4 (by omega) (by omega), st _ 5 (by omega) (by omega), L_m_text_73, if_neg (by decide)]
  have e10 : (jup (jup (jup (jup (jup (jup g 10 (jup (g 10) 3 0)) 11 (jup (g 11) 3 0)) 10 (jup ((jup (jup g 10 (jup (g 10) 3 0)) 11 (jup (g 11) 3 0)) 10) 4 0)) 11 (jup ((jup (jup g 10 (jup (g 10) 3 0)) 11 (jup (g 11) 3 0)) 11) 4 0)) 10 (jup ((jup (jup (jup (jup g 10 (jup (g 10) 3 0)) 11 (jup (g 11) 3 0)) 10 (jup ((jup (jup g 10 (jup (g 10) 3 0)) 11 (jup (g 11) 3 0)) 10) 4 0)) 11 (jup ((jup (jup g 10 (jup (g 10) 3 0)) 11 (jup (g 11) 3 0)) 11) 4 0)) 10) 5 0)) 11 (jup ((jup (jup (jup (jup g 10 (jup (g 10) 3 0)) 11 (jup (g 11) 3 0)) 10 (jup ((jup (jup g 10 (jup (g 10) 3 0)) 11 (jup (g 11) 3 0)) 10) 4 0)) 11 (jup ((jup (jup g 10 (jup (g 10) 3 0)) 11 (jup (g 11) 3 0)) 11) 4 0)) 11) 5 0)) = jup (jup g 10 (jup (jup (jup (g 10) 3 0) 4 0) 5 0)) 11 (jup (jup (jup (g 11) 3 0) 4 0) 5 0) := by
    funext k
    by_cases k11 : k = 11
    · subst k11; simp (disch := omega) only [jup_same, jup_ne]
    · rw [jup_ne k11, jup_ne k11]
      by_cases k10 : k = 10
      · subst k10; simp (disch := omega) only [jup_same, jup_ne]
      · rw [jup_ne k10, jup_ne k11, jup_ne k10, jup_ne k11, jup_ne k10, jup_ne k10]
  rw [e10]
  rfl
theorem M_halves {D : Nat} {e1 e2 : Option Value} {cx : jCX} {f : Nat → Int32} {g : Nat → Nat → Int32} {n : Nat → Nat → Int64} {b : Nat → Nat → Int32} {l : Nat → Int64} {t : List jE} {z : Nat × Nat × Nat × (Nat → Int32)} (h9 : f 9 = 0) : ∃ gH, K_m_text_112 D e1 e2 cx f g n b l t z = jbO (K_m_begins D cx (jup (jup (jup (jup (jup (jup f 11 (f 9)) 12 (f 10)) 17 0) 18 0) 23 0) 24 (-1)) gH n b l t z) (jk D 174 178 ([some (.ref 79), e1, e2], []) []) ∧
    gH 1 = jhf 11 (g 1) ∧ gH 2 = jhf 30 (g 2) ∧ (∀ k, 3 ≤ k → k ≤ 8 → gH k = jhf 6 (g k)) ∧ gH 9 = jhf 14 (g 9) ∧ gH 10 = jhf 3 (g 10) ∧ gH 11 = jhf 3 (g 11) ∧ gH 12 = jhf 64 (g 12) ∧ gH 13 = jhf 64 (g 13) ∧ ∀ k, k = 0 ∨ 14 ≤ k → gH k = g k := by
  refine ⟨(jup (jup (jup (jup (jup (jup (jup (jup (jup (jup (jup (jup (jup g 1 (jhf 11 (g 1))) 2 (jhf 30 (g 2))) 3 (jhf 6 (g 3))) 4 (jhf 6 (g 4))) 5 (jhf 6 (g 5))) 6 (jhf 6 (g 6))) 7 (jhf 6 (g 7))) 8 (jhf 6 (g 8))) 9 (jhf 14 (g 9))) 10 (jhf 3 (g 10))) 11 (jhf 3 (g 11))) 12 (jhf 64 (g 12))) 13 (jhf 64 (g 13))), ?_, ?_⟩
  · rw [E_m_text_112, if_pos h9, M_half_number, jbO_some, jk_none, E_m_text_128, M_half_cropAs, jbO_some, jk_none, E_m_text_131, M_half_scareName, jbO_some, jk_none, E_m_text_134, M_half_scareAt, jbO_some, jk_none, E_m_text_137, M_half_sight, jbO_some, jk_none, E_m_text_140, M_half_payAs, jbO_some, jk_none, E_m_text_143, M_half_gradeAs, jbO_some, jk_none, E_m_text_146, M_half_rotaAs, jbO_some, jk_none, E_m_text_149, M_half_windAs, jbO_some, jk_none, E_m_text_152, M_half_sumFrom, jbO_some, jk_none, E_m_text_155, M_half_sumTo, jbO_some, jk_none, E_m_text_158, M_half_knotSort, jbO_some, jk_none, E_m_text_161, M_half_knotValue, jbO_some, jk_none, E_m_text_164]
    simp (disch := omega) only [jup_ne]
  · refine ⟨?_, ?_, ?_, ?_, ?_, ?_, ?_, ?_, ?_⟩
    · simp (disch := omega) only [jup_ne, jup_same]
    · simp (disch := omega) only [jup_ne, jup_same]
    · intro k a b
      rcases (show k = 3 ∨ k = 4 ∨ k = 5 ∨ k = 6 ∨ k = 7 ∨ k = 8 by omega) with rfl | rfl | rfl | rfl | rfl | rfl <;> simp (disch := omega) only [jup_ne, jup_same]
    · simp (disch := omega) only [jup_ne, jup_same]
    · simp (disch := omega) only [jup_ne, jup_same]
    · simp (disch := omega) only [jup_ne, jup_same]
    · simp (disch := omega) only [jup_ne, jup_same]
    · simp (disch := omega) only [jup_ne, jup_same]
    · intro k hk
      simp (disch := omega) only [jup_ne]
