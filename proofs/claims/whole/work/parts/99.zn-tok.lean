-- TOKENS: signs; the reference's steps
def jsn (c : Int32) : Int32 := if c = 40 then 101 else if c = 41 then 102 else if c = 42 then 13 else if c = 43 then 11 else if c = 45 then 12 else if c = 47 then 14 else if c = 59 then 100 else if c = 60 then 5 else if c = 61 then 7 else if c = 62 then 9 else -1
theorem S_k_single {D : Nat} {c : Int32} {f : Nat → Int32} {g : Nat → Nat → Int32} {n2 : Nat → Nat → Int64} {p : Nat → Nat → Int32} {pa : Nat → Nat → Nat → Int32} {s : Nat → Nat → Int32} {sa : Nat → Nat → Nat → Int32} {sw : Bool} {rp : Value} {t : List jE} {z : Nat × Nat × Nat × (Nat → Int32)} : K_k_single D c f g n2 p pa s sa sw rp t z = some (.inl (some (.int (jsn c))), (jX f g n2 p pa s sa sw rp t, z)) := by
  by_cases h40 : c = 40
  · subst h40; simp +decide only [E_k_single, jsn, if_true, if_false]
  by_cases h41 : c = 41
  · subst h41; simp +decide only [E_k_single, jsn, if_true, if_false]
  by_cases h42 : c = 42
  · subst h42; simp +decide only [E_k_single, jsn, if_true, if_false]
  by_cases h43 : c = 43
  · subst h43; simp +decide only [E_k_single, jsn, if_true, if_false]
  by_cases h45 : c = 45
  · subst h45; simp +decide only [E_k_single, jsn, if_true, if_false]
  by_cases h47 : c = 47
  · subst h47; simp +decide only [E_k_single, jsn, if_true, if_false]
  by_cases h59 : c = 59
  · subst h59; simp +decide only [E_k_single, jsn, if_true, if_false]
  by_cases h60 : c = 60
  · subst h60; simp +decide only [E_k_single, jsn, if_true, if_false]
  by_cases h61 : c = 61
  · subst h61; simp +decide only [E_k_single, jsn, if_true, if_false]
  by_cases h62 : c = 62
  · subst h62; simp +decide only [E_k_single, jsn, if_true, if_false]
  simp only [E_k_single, jsn, h40, h41, h42, h43, h45, h47, h59, h60, h61, h62, if_false, ite_self]
/-- where a sign ends, its kind, its value -/
def jsgc (c bh : Int32) (i : Nat) : Int32 × Int32 × Int32 := if c = 60 ∧ bh = 61 then (Int32.ofNat (i + 2), 5, 6) else if c = 60 ∧ bh = 62 then (Int32.ofNat (i + 2), 5, 8) else if c = 62 ∧ bh = 61 then (Int32.ofNat (i + 2), 5, 10) else (Int32.ofNat (i + 1), if jsn c = -1 then 1 else 5, jsn c)
def jsgm (c hr : Int32) (i : Nat) : Int32 × Int32 × Int32 := if c = 60 ∧ hr = 61 then (Int32.ofNat (i + 2), 3, 256) else if c = 60 ∧ hr = 62 then (Int32.ofNat (i + 2), 3, 257) else if c = 62 ∧ hr = 61 then (Int32.ofNat (i + 2), 3, 258) else (Int32.ofNat (i + 1), if jsn c = -1 then 5 else 3, c)
theorem S_k_sg {D i : Nat} {c bh : Int32} {f : Nat → Int32} {g : Nat → Nat → Int32} {n2 : Nat → Nat → Int64} {p : Nat → Nat → Int32} {pa : Nat → Nat → Nat → Int32} {s : Nat → Nat → Int32} {sa : Nat → Nat → Nat → Int32} {sw : Bool} {rp : Value} {t : List jE} {z : Nat × Nat × Nat × (Nat → Int32)} (h10 : f 10 = Int32.ofNat (i + 1)) : ∃ f', K_k_readSign_24 D c none bh f g n2 p pa s sa sw rp t z = some (.inl none, (jX f' g n2 p pa s sa sw rp t, z)) ∧ (∀ k, k < 10 ∨ 12 < k → f' k = f k) ∧ f' 10 = (jsgc c bh i).1 ∧ f' 11 = (jsgc c bh i).2.1 ∧ f' 12 = (jsgc c bh i).2.2 := by
  have h84 : ∀ (f1 : Nat → Int32) (d1 d2 : Option Value), K_k_readSign_76 D d1 d2 f1 g n2 p pa s sa sw rp t z = some (.inl none, (jX (jup f1 11 (if f1 12 = -1 then 1 else 5)) g n2 p pa s sa sw rp t, z)) := by
    intro f1 d1 d2
    rw [E_k_readSign_76]
    by_cases h : f1 12 = -1
    · rw [if_pos h, if_pos h, E_k_readSign_84]
    · rw [if_neg h, if_neg h, E_k_readSign_84]
  rw [E_k_readSign_24, S_k_single]
  simp only [jbO_some, jbO_none, jbO_ite, jk_some, jk_none, E_k_readSign_28]
  have hfin : ∀ v : Int32, ∀ e : Int32, (∀ k, k < 10 ∨ 12 < k → (jup (jup (jup f 10 e) 12 v) 11 (if (jup (jup f 10 e) 12 v) 12 = -1 then 1 else 5)) k = f k) ∧ (jup (jup (jup f 10 e) 12 v) 11 (if (jup (jup f 10 e) 12 v) 12 = -1 then 1 else 5)) 10 = e ∧ (jup (jup (jup f 10 e) 12 v) 11 (if (jup (jup f 10 e) 12 v) 12 = -1 then 1 else 5)) 11 = (if v = -1 then 1 else 5) ∧ (jup (jup (jup f 10 e) 12 v) 11 (if (jup (jup f 10 e) 12 v) 12 = -1 then 1 else 5)) 12 = v := by
    intro v e
    refine ⟨fun k hk => ?_, ?_, ?_, ?_⟩
    · rw [jup_ne (by omega), jup_ne (by omega), jup_ne (by omega)]
    · rw [jup_ne (by omega), jup_ne (by omega), jup_same]
    · rw [jup_same, jup_same]
    · rw [jup_ne (by omega), jup_same]
  have hc12 : ∀ v v' : Int32, ∀ e : Int32, jup (jup (jup f 12 v) 10 e) 12 v' = jup (jup f 10 e) 12 v' := by
    intro v v' e
    funext k
    by_cases k12 : k = 12
    · subst k12; rw [jup_same, jup_same]
    · by_cases k10 : k = 10
      · subst k10; rw [jup_ne k12, jup_same, jup_ne k12, jup_same]
      · rw [jup_ne k12, jup_ne k10, jup_ne k12, jup_ne k12, jup_ne k10]
  have hself : ∀ v : Int32, jup f 12 v = jup (jup f 10 (Int32.ofNat (i + 1))) 12 v := by
    intro v; rw [← h10, jup_self]
  by_cases hc : c = 60
  · subst hc
    by_cases hb : bh = 61
    · subst hb
      rw [if_pos rfl, if_pos rfl, h84, h10, jsucc, show i + 1 + 1 = i + 2 from rfl]
      refine ⟨_, rfl, ?_⟩
      have := hfin 6 (Int32.ofNat (i + 2))
      simpa [jsgc] using this
    · rw [if_pos rfl, if_neg hb, E_k_readSign_45, if_pos rfl]
      by_cases hb2 : bh = 62
      · subst hb2
        rw [if_pos rfl, h84, show (jup f 12 (jsn 60)) 10 = Int32.ofNat (i + 1) by rw [jup_ne (by omega)]; exact h10, jsucc, hc12, show i + 1 + 1 = i + 2 from rfl]
        refine ⟨_, rfl, ?_⟩
        have := hfin 8 (Int32.ofNat (i + 2))
        simpa [jsgc] using this
      · rw [if_neg hb2, E_k_readSign_61, if_neg (by decide), h84, hself]
        refine ⟨_, rfl, ?_⟩
        have := hfin (jsn 60) (Int32.ofNat (i + 1))
        simpa [jsgc, hb, hb2] using this
  · rw [if_neg hc, E_k_readSign_45, if_neg hc, E_k_readSign_61]
    by_cases hc2 : c = 62
    · subst hc2
      by_cases hb : bh = 61
      · subst hb
        rw [if_pos rfl, if_pos rfl, h84, show (jup f 12 (jsn 62)) 10 = Int32.ofNat (i + 1) by rw [jup_ne (by omega)]; exact h10, jsucc, hc12, show i + 1 + 1 = i + 2 from rfl]
        refine ⟨_, rfl, ?_⟩
        have := hfin 10 (Int32.ofNat (i + 2))
        simpa [jsgc] using this
      · rw [if_pos rfl, if_neg hb, h84, hself]
        refine ⟨_, rfl, ?_⟩
        have := hfin (jsn 62) (Int32.ofNat (i + 1))
        simpa [jsgc, hb] using this
    · rw [if_neg hc2, h84, hself]
      refine ⟨_, rfl, ?_⟩
      have := hfin (jsn c) (Int32.ofNat (i + 1))
      simpa [jsgc, hc, hc2] using this
theorem S_k_readSign {D N i : Nat} {f : Nat → Int32} {g : Nat → Nat → Int32} {n2 : Nat → Nat → Int64} {p : Nat → Nat → Int32} {pa : Nat → Nat → Nat → Int32} {s : Nat → Nat → Int32} {sa : Nat → Nat → Nat → Int32} {sw : Bool} {rp : Value} {t : List jE} {z : Nat × Nat × Nat × (Nat → Int32)} (h9 : f 9 = Int32.ofNat N) (hN : N ≤ 700) (h10 : f 10 = Int32.ofNat i) (hi : i < N) :
    ∃ f', K_k_readSign D f g n2 p pa s sa sw rp t z = some (.inl none, (jX f' g n2 p pa s sa sw rp t, z)) ∧ (∀ k, k < 10 ∨ 12 < k → f' k = f k) ∧ f' 10 = (jsgc (g 0 i) (if i + 1 < N then g 0 (i + 1) else 0) i).1 ∧ f' 11 = (jsgc (g 0 i) (if i + 1 < N then g 0 (i + 1) else 0) i).2.1 ∧ f' 12 = (jsgc (g 0 i) (if i + 1 < N then g 0 (i + 1) else 0) i).2.2 := by
  have h : K_k_readSign D f g n2 p pa s sa sw rp t z = K_k_readSign_24 D (g 0 i) none (if i + 1 < N then g 0 (i + 1) else 0) (jup f 10 (Int32.ofNat (i + 1))) g n2 p pa s sa sw rp t z := by
    rw [E_k_readSign, h9, h10, if_neg (jout_n (by omega) (by omega)), jsucc]
    by_cases h : i + 1 < N
    · rw [if_pos (jlt_t h (by omega)), if_pos h, if_neg (jout_n (by omega) (by omega)), jclamp (show i < 2147483648 by omega), jclamp (show i + 1 < 2147483648 by omega)]
    · rw [if_neg (jlt_n (by omega) (by omega)), if_neg h, jclamp (show i < 2147483648 by omega)]
  obtain ⟨f', e1, e2, e3⟩ := S_k_sg (D := D) (i := i) (c := g 0 i) (bh := if i + 1 < N then g 0 (i + 1) else 0) (f := jup f 10 (Int32.ofNat (i + 1))) (g := g) (n2 := n2) (p := p) (pa := pa) (s := s) (sa := sa) (sw := sw) (rp := rp) (t := t) (z := z) jup_same
  refine ⟨f', by rw [h]; exact e1, fun k hk => ?_, e3⟩
  rw [e2 k hk, jup_ne (by omega)]
theorem M_here {D N i : Nat} {cx : jCX} {f : Nat → Int32} {g : Nat → Nat → Int32} {n : Nat → Nat → Int64} {b : Nat → Nat → Int32} {l : Nat → Int64} {t : List jE} {z : Nat × Nat × Nat × (Nat → Int32)} (h4 : f 4 = Int32.ofNat N) (hN : N ≤ 700) (h5 : f 5 = Int32.ofNat i) (hi : i < 2147483648) : K_m_here D cx f g n b l t z = some (.inl (some (.int (if i < N then g 0 i else -1))), (jXt cx (jY f g n b l t), z)) := by
  rw [E_m_here, h4, h5]
  by_cases h : i < N
  · rw [if_pos (jlt_t h (by omega)), if_pos h, if_neg (jout_n (by omega) (by omega)), jclamp hi]
  · rw [if_neg (jlt_n (by omega) hi), if_neg h]
theorem M_isSmall {D : Nat} {x : Int32} {cx : jCX} {f : Nat → Int32} {g : Nat → Nat → Int32} {n : Nat → Nat → Int64} {b : Nat → Nat → Int32} {l : Nat → Int64} {t : List jE} {z : Nat × Nat × Nat × (Nat → Int32)} : K_m_isSmall D x cx f g n b l t z = some (.inl (some (.int (if jlet x = true then 1 else 0))), (jXt cx (jY f g n b l t), z)) := by
  rw [E_m_isSmall]
  by_cases h1 : x < 97
  · rw [if_pos h1, if_neg (by simp [jlet, h1])]
  · rw [if_neg h1]
    by_cases h2 : 122 < x
    · rw [if_pos h2, if_neg (by simp [jlet, h2])]
    · rw [if_neg h2, if_pos (by simp [jlet, h1, h2])]
theorem M_isDigit {D : Nat} {x : Int32} {cx : jCX} {f : Nat → Int32} {g : Nat → Nat → Int32} {n : Nat → Nat → Int64} {b : Nat → Nat → Int32} {l : Nat → Int64} {t : List jE} {z : Nat × Nat × Nat × (Nat → Int32)} : K_m_isDigit D x cx f g n b l t z = some (.inl (some (.int (if jdgt x = true then 1 else 0))), (jXt cx (jY f g n b l t), z)) := by
  rw [E_m_isDigit]
  by_cases h1 : x < 48
  · rw [if_pos h1, if_neg (by simp [jdgt, h1])]
  · rw [if_neg h1]
    by_cases h2 : 57 < x
    · rw [if_pos h2, if_neg (by simp [jdgt, h2])]
    · rw [if_neg h2, if_pos (by simp [jdgt, h1, h2])]
theorem M_sign {D N i : Nat} {c : Int32} {cx : jCX} {f : Nat → Int32} {g : Nat → Nat → Int32} {n : Nat → Nat → Int64} {b : Nat → Nat → Int32} {l : Nat → Int64} {t : List jE} {z : Nat × Nat × Nat × (Nat → Int32)} (h4 : f 4 = Int32.ofNat N) (hN : N ≤ 700) (h5 : f 5 = Int32.ofNat i) (hi : i < N) (hc : ∃ b : Nat, b < 256 ∧ c = Int32.ofNat b) :
    ∃ f', K_m_sign D c cx f g n b l t z = some (.inl none, (jXt cx (jY f' g n b l t), z)) ∧ (∀ k, k < 5 ∨ k = 6 ∨ 8 < k → f' k = f k) ∧ f' 5 = (jsgm c (if i + 1 < N then g 0 (i + 1) else -1) i).1 ∧ f' 7 = (jsgm c (if i + 1 < N then g 0 (i + 1) else -1) i).2.1 ∧ f' 8 = (jsgm c (if i + 1 < N then g 0 (i + 1) else -1) i).2.2 := by
  have hst : K_m_sign D c cx f g n b l t z = K_m_sign_40 D c (if jsn c = -1 then 5 else 3) cx (jup f 5 (Int32.ofNat (i + 1))) g n b l t z := by
    rw [E_m_sign, h5, jsucc]
    simp only [E_m_sign_37]
    by_cases h40 : c = 40
    · subst h40; simp +decide only [if_true, if_false]
    by_cases h41 : c = 41
    · subst h41; simp +decide only [if_true, if_false]
    by_cases h42 : c = 42
    · subst h42; simp +decide only [if_true, if_false]
    by_cases h43 : c = 43
    · subst h43; simp +decide only [if_true, if_false]
    by_cases h45 : c = 45
    · subst h45; simp +decide only [if_true, if_false]
    by_cases h47 : c = 47
    · subst h47; simp +decide only [if_true, if_false]
    by_cases h59 : c = 59
    · subst h59; simp +decide only [if_true, if_false]
    by_cases h60 : c = 60
    · subst h60; simp +decide only [if_true, if_false]
    by_cases h61 : c = 61
    · subst h61; simp +decide only [if_true, if_false]
    by_cases h62 : c = 62
    · subst h62; simp +decide only [if_true, if_false]
    simp only [jsn, h40, h41, h42, h43, h45, h47, h59, h60, h61, h62, if_false, if_true]
  have hfr : ∀ (e so v : Int32), (∀ k, k < 5 ∨ k = 6 ∨ 8 < k → (jup (jup (jup f 5 e) 7 so) 8 v) k = f k) ∧ (jup (jup (jup f 5 e) 7 so) 8 v) 5 = e ∧ (jup (jup (jup f 5 e) 7 so) 8 v) 7 = so ∧ (jup (jup (jup f 5 e) 7 so) 8 v) 8 = v := by
    intro e so v
    refine ⟨fun k hk => ?_, ?_, ?_, ?_⟩
    · rw [jup_ne (by omega), jup_ne (by omega), jup_ne (by omega)]
    · rw [jup_ne (by omega), jup_ne (by omega), jup_same]
    · rw [jup_ne (by omega), jup_same]
    · rw [jup_same]
  have hh := fun {so v : Int32} => M_here (D := D) (N := N) (i := i + 1) (cx := cx) (f := jup (jup (jup f 5 (Int32.ofNat (i + 1))) 7 so) 8 v) (g := g) (n := n) (b := b) (l := l) (t := t) (z := z) (by simp (disch := omega) only [jup_ne]; exact h4) hN (by simp (disch := omega) only [jup_ne, jup_same]) (by omega)
  have h74 : ∀ (so v : Int32) (d : Option Value), v < 256 → K_m_sign_74 D d cx (jup (jup (jup f 5 (Int32.ofNat (i + 1))) 7 so) 8 v) g n b l t z = some (.inl none, (jXt cx (jY (jup (jup (jup f 5 (Int32.ofNat (i + 1))) 7 so) 8 v) g n b l t), z)) := by
    intro so v d hv
    rw [E_m_sign_74, jup_same, if_pos hv]
  have h74' : ∀ (so v : Int32) (d : Option Value), ¬ v < 256 → K_m_sign_74 D d cx (jup (jup (jup f 5 (Int32.ofNat (i + 1))) 7 so) 8 v) g n b l t z = some (.inl none, (jXt cx (jY (jup (jup (jup f 5 (Int32.ofNat (i + 2))) 7 so) 8 v) g n b l t), z)) := by
    intro so v d hv
    rw [E_m_sign_74, jup_same, if_neg hv, show (jup (jup (jup f 5 (Int32.ofNat (i + 1))) 7 so) 8 v) 5 = Int32.ofNat (i + 1) by simp (disch := omega) only [jup_ne, jup_same], jsucc]
    congr 4
  rw [hst]
  generalize (if i + 1 < N then g 0 (i + 1) else (-1 : Int32)) = hr at hh ⊢
  by_cases h60 : c = 60
  · subst h60
    rw [E_m_sign_40, if_pos rfl, if_neg (by decide), hh]
    simp only [jbO_some, jbO_none, jbO_ite, jk_some, jk_none, E_m_sign_49, jup_jup]
    by_cases h61 : hr = 61
    · subst h61
      rw [if_pos rfl, E_m_sign_54, if_pos rfl, hh]
      simp only [jbO_some, jbO_none, jbO_ite, jk_some, jk_none, E_m_sign_59]
      rw [if_neg (by decide), E_m_sign_64, if_neg (by decide), h74' _ _ _ (by decide)]
      refine ⟨_, rfl, ?_⟩
      have := hfr (Int32.ofNat (i + 2)) 3 256
      simpa [jsgm] using this
    · rw [if_neg h61, E_m_sign_54, if_pos rfl, hh]
      simp only [jbO_some, jbO_none, jbO_ite, jk_some, jk_none, E_m_sign_59, jup_jup]
      by_cases h62 : hr = 62
      · subst h62
        rw [if_pos rfl, E_m_sign_64, if_neg (by decide), h74' _ _ _ (by decide)]
        refine ⟨_, rfl, ?_⟩
        have := hfr (Int32.ofNat (i + 2)) 3 257
        simpa [jsgm] using this
      · rw [if_neg h62, E_m_sign_64, if_neg (by decide), h74 _ _ _ (by decide)]
        refine ⟨_, rfl, ?_⟩
        have := hfr (Int32.ofNat (i + 1)) 3 60
        simpa +decide [jsgm, h61, h62, jsn] using this
  · rw [E_m_sign_40, if_neg h60, E_m_sign_54, if_neg h60, E_m_sign_64]
    by_cases h62 : c = 62
    · subst h62
      rw [if_pos rfl, if_neg (by decide), hh]
      simp only [jbO_some, jbO_none, jbO_ite, jk_some, jk_none, E_m_sign_69, jup_jup]
      by_cases h61 : hr = 61
      · subst h61
        rw [if_pos rfl, h74' _ _ _ (by decide)]
        refine ⟨_, rfl, ?_⟩
        have := hfr (Int32.ofNat (i + 2)) 3 258
        simpa [jsgm] using this
      · rw [if_neg h61, h74 _ _ _ (by decide)]
        refine ⟨_, rfl, ?_⟩
        have := hfr (Int32.ofNat (i + 1)) 3 62
        simpa +decide [jsgm, h61, jsn] using this
    · obtain ⟨b0, hb0, hbc⟩ := hc
      have hlt : c < 256 := by rw [hbc]; exact jlt_t (b := 256) hb0 (by omega)
      rw [if_neg h62, h74 _ _ _ hlt]
      refine ⟨_, rfl, ?_⟩
      have := hfr (Int32.ofNat (i + 1)) (if jsn c = -1 then 5 else 3) c
      simpa [jsgm, h60, h62] using this
