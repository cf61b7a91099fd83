-- TOKENS: the reference's runs
theorem M_blank {D N : Nat} {d1 : Option Value} {cx : jCX} {f : Nat → Int32} {g : Nat → Nat → Int32} {n : Nat → Nat → Int64} {b : Nat → Nat → Int32} {l : Nat → Int64} {t : List jE} {z : Nat × Nat × Nat × (Nat → Int32)} (h4 : f 4 = Int32.ofNat N) (hN : N ≤ 700) : ∀ k i, N - i ≤ k → i ≤ N →
    jev D 144 0 ([some (.ref 79), d1], []) [] ((jXt cx (jY (jup f 5 (Int32.ofNat i)) g n b l t), z)) = jbO (K_m_here D cx (jup (jup f 5 (Int32.ofNat (jrn jblk (g 0) N k i))) 6 (Int32.ofNat (jrn jblk (g 0) N k i))) g n b l t z) (jk D 144 21 ([some (.ref 79), d1], []) []) := by
  intro k
  induction k with
  | zero =>
    intro i hk hi
    have hh := M_here (D := D) (N := N) (i := i) (cx := cx) (f := jup f 5 (Int32.ofNat i)) (g := g) (n := n) (b := b) (l := l) (t := t) (z := z) (by rw [jup_ne (by omega)]; exact h4) hN jup_same (by omega)
    rw [if_neg (show ¬ i < N by omega)] at hh
    rw [L_m_token_0, hh, jbO_some, jk_some, E_m_token_2, if_neg (by decide), hh, jbO_some, jk_some, E_m_token_6, if_neg (by decide), jup_same, jrn]
  | succ k ih =>
    intro i hk hi
    have hh := M_here (D := D) (N := N) (i := i) (cx := cx) (f := jup f 5 (Int32.ofNat i)) (g := g) (n := n) (b := b) (l := l) (t := t) (z := z) (by rw [jup_ne (by omega)]; exact h4) hN jup_same (by omega)
    rw [jrn]
    by_cases hiN : i < N
    · rw [if_pos hiN] at hh
      have h8 : K_m_token_8 D d1 cx (jup f 5 (Int32.ofNat i)) g n b l t z = jbO (K_m_here D cx (jup (jup f 5 (Int32.ofNat (jrn jblk (g 0) N k (i + 1)))) 6 (Int32.ofNat (jrn jblk (g 0) N k (i + 1)))) g n b l t z) (jk D 144 21 ([some (.ref 79), d1], []) []) := by
        rw [E_m_token_8, jup_same, jup_jup, jsucc]; exact ih (i + 1) (by omega) (by omega)
      rw [L_m_token_0, hh, jbO_some, jk_some, E_m_token_2]
      by_cases h1 : g 0 i = 10
      · rw [if_pos h1, if_pos ⟨hiN, by simp [jblk, h1]⟩, h8]
      · rw [if_neg h1, hh, jbO_some, jk_some, E_m_token_6]
        by_cases h2 : g 0 i = 32
        · rw [if_pos h2, if_pos ⟨hiN, by simp [jblk, h2]⟩, h8]
        · rw [if_neg h2, if_neg (by simp [jblk, h1, h2]), jup_same]
    · rw [if_neg hiN] at hh
      rw [L_m_token_0, hh, jbO_some, jk_some, E_m_token_2, if_neg (by decide), hh, jbO_some, jk_some, E_m_token_6, if_neg (by decide), jup_same, if_neg (fun q => hiN q.1)]
theorem jlet_m1 : jlet (-1) = false := by decide
theorem jdgt_m1 : jdgt (-1) = false := by decide
theorem M_t32 {D N : Nat} {d1 : Option Value} {cx : jCX} {f : Nat → Int32} {g : Nat → Nat → Int32} {n : Nat → Nat → Int64} {b : Nat → Nat → Int32} {l : Nat → Int64} {t : List jE} {z : Nat × Nat × Nat × (Nat → Int32)} (h4 : f 4 = Int32.ofNat N) (hN : N ≤ 700) : ∀ k i, N - i ≤ k → i ≤ N →
    K_m_token_32 D d1 cx (jup f 5 (Int32.ofNat i)) g n b l t z = jbO (K_m_word D cx (jup f 5 (Int32.ofNat (jrn jlet (g 0) N k i))) g n b l t z) (jk D 144 46 ([some (.ref 79), d1], []) [.ref 79]) := by
  intro k
  induction k with
  | zero =>
    intro i hk hi
    have hh := M_here (D := D) (N := N) (i := i) (cx := cx) (f := jup f 5 (Int32.ofNat i)) (g := g) (n := n) (b := b) (l := l) (t := t) (z := z) (by rw [jup_ne (by omega)]; exact h4) hN jup_same (by omega)
    rw [if_neg (show ¬ i < N by omega)] at hh
    rw [L_m_token_32, hh, jbO_some, jk_some, E_m_token_34, M_isSmall, if_neg (by rw [jlet_m1]; decide), jbO_some, jk_some, E_m_token_35, if_pos rfl, jrn]
  | succ k ih =>
    intro i hk hi
    have hh := M_here (D := D) (N := N) (i := i) (cx := cx) (f := jup f 5 (Int32.ofNat i)) (g := g) (n := n) (b := b) (l := l) (t := t) (z := z) (by rw [jup_ne (by omega)]; exact h4) hN jup_same (by omega)
    rw [jrn]
    by_cases hiN : i < N
    · rw [if_pos hiN] at hh
      rw [L_m_token_32, hh, jbO_some, jk_some, E_m_token_34, M_isSmall]
      by_cases hl : jlet (g 0 i) = true
      · rw [if_pos hl, jbO_some, jk_some, E_m_token_35, if_neg (by decide), if_pos ⟨hiN, hl⟩, jup_same, jup_jup, jsucc]
        exact ih (i + 1) (by omega) (by omega)
      · rw [if_neg hl, jbO_some, jk_some, E_m_token_35, if_pos rfl, if_neg (fun q => hl q.2)]
    · rw [if_neg hiN] at hh
      rw [L_m_token_32, hh, jbO_some, jk_some, E_m_token_34, M_isSmall, if_neg (by rw [jlet_m1]; decide), jbO_some, jk_some, E_m_token_35, if_pos rfl, if_neg (fun q => hiN q.1)]
def jnd (v : Nat → Int32) (a : Nat) : Nat → Nat
  | 0 => 0
  | m + 1 => if 99999 < jnd v a m then jnd v a m else 10 * jnd v a m + ((v (a + m)).toNatClampNeg - 48)
theorem jnd_le {v : Nat → Int32} {a : Nat} : ∀ {m : Nat}, (∀ j, j < m → ∃ b, 48 ≤ b ∧ b ≤ 57 ∧ v (a + j) = Int32.ofNat b) → jnd v a m ≤ 1000000
  | 0, _ => by rw [jnd]; omega
  | m + 1, h => by
    have ih := jnd_le (v := v) (a := a) (m := m) (fun j hj => h j (by omega))
    obtain ⟨b, h1, h2, h3⟩ := h m (by omega)
    rw [jnd]
    split
    · exact ih
    · rw [h3, jclamp (by omega)]; omega
theorem jnum_rel {v : Nat → Int32} {a : Nat} : ∀ {m : Nat}, (jnc v a m = jnd v a m ∧ jnc v a m ≤ 99999) ∨ (99999 < jnc v a m ∧ 99999 < jnd v a m)
  | 0 => Or.inl ⟨rfl, by rw [jnc]; omega⟩
  | m + 1 => by
    rw [jnc, jnd]
    rcases jnum_rel (v := v) (a := a) (m := m) with ⟨h1, h2⟩ | ⟨h1, h2⟩
    · rw [if_neg (by omega)]; omega
    · rw [if_pos h2]; omega
theorem M_t81 {D N a : Nat} {d1 : Option Value} {cx : jCX} {f : Nat → Int32} {g : Nat → Nat → Int32} {n : Nat → Nat → Int64} {b : Nat → Nat → Int32} {l : Nat → Int64} {t : List jE} {z : Nat × Nat × Nat × (Nat → Int32)} (h4 : f 4 = Int32.ofNat N) (hN : N ≤ 700) (htp : jtape (g 0) N) : ∀ k m, N - (a + m) ≤ k → a + m ≤ N → (∀ j, j < m → ∃ b, 48 ≤ b ∧ b ≤ 57 ∧ g 0 (a + j) = Int32.ofNat b) →
    K_m_token_81 D d1 cx (jup (jup f 5 (Int32.ofNat (a + m))) 8 (Int32.ofNat (jnd (g 0) a m))) g n b l t z = some (.inl none, (jXt cx (jY (jup (jup f 5 (Int32.ofNat (jrn jdgt (g 0) N k (a + m)))) 8 (Int32.ofNat (jnd (g 0) a (jrn jdgt (g 0) N k (a + m) - a)))) g n b l t), z)) := by
  intro k
  induction k with
  | zero =>
    intro m hk hm hd
    have hh := M_here (D := D) (N := N) (i := a + m) (cx := cx) (f := jup (jup f 5 (Int32.ofNat (a + m))) 8 (Int32.ofNat (jnd (g 0) a m))) (g := g) (n := n) (b := b) (l := l) (t := t) (z := z) (by rw [jup_ne (by omega), jup_ne (by omega)]; exact h4) hN (by rw [jup_ne (by omega), jup_same]) (by omega)
    rw [if_neg (show ¬ a + m < N by omega)] at hh
    rw [L_m_token_81, hh, jbO_some, jk_some, E_m_token_83, M_isDigit, if_neg (by rw [jdgt_m1]; decide), jbO_some, jk_some, E_m_token_84, if_pos rfl, jrn, show a + m - a = m by omega]
  | succ k ih =>
    intro m hk hm hd
    have hh := M_here (D := D) (N := N) (i := a + m) (cx := cx) (f := jup (jup f 5 (Int32.ofNat (a + m))) 8 (Int32.ofNat (jnd (g 0) a m))) (g := g) (n := n) (b := b) (l := l) (t := t) (z := z) (by rw [jup_ne (by omega), jup_ne (by omega)]; exact h4) hN (by rw [jup_ne (by omega), jup_same]) (by omega)
    rw [jrn]
    by_cases hiN : a + m < N
    · rw [if_pos hiN] at hh
      rw [L_m_token_81, hh, jbO_some, jk_some, E_m_token_83, M_isDigit]
      by_cases hl : jdgt (g 0 (a + m)) = true
      · obtain ⟨b0, hb1, hb2, hb⟩ := jtape_dgt htp hiN hl
        have hle := jnd_le hd
        have hd' : ∀ j, j < m + 1 → ∃ b, 48 ≤ b ∧ b ≤ 57 ∧ g 0 (a + j) = Int32.ofNat b := by
          intro j hj
          by_cases hjm : j = m
          · subst hjm; exact ⟨b0, hb1, hb2, hb⟩
          · exact hd j (by omega)
        have hx := ih (m + 1) (by omega) (by omega) hd'
        rw [show a + (m + 1) = a + m + 1 by omega] at hx
        have h102 : ∀ v : Int32, v = Int32.ofNat (jnd (g 0) a (m + 1)) → K_m_token_102 D d1 v cx (jup (jup f 5 (Int32.ofNat (a + m))) 8 (Int32.ofNat (jnd (g 0) a m))) g n b l t z = some (.inl none, (jXt cx (jY (jup (jup f 5 (Int32.ofNat (jrn jdgt (g 0) N k (a + m + 1)))) 8 (Int32.ofNat (jnd (g 0) a (jrn jdgt (g 0) N k (a + m + 1) - a)))) g n b l t), z)) := by
          intro v hv
          rw [E_m_token_102, ← hx, hv, show (jup (jup f 5 (Int32.ofNat (a + m))) 8 (Int32.ofNat (jnd (g 0) a m))) 5 = Int32.ofNat (a + m) by rw [jup_ne (by omega), jup_same], jsucc]
          congr 1
          funext k
          by_cases k8 : k = 8
          · subst k8; rw [jup_same, jup_same]
          · by_cases k5 : k = 5
            · subst k5; rw [jup_ne k8, jup_same, jup_ne k8, jup_same]
            · rw [jup_ne k8, jup_ne k5, jup_ne k8, jup_ne k5, jup_ne k8, jup_ne k5]
        rw [if_pos (⟨hiN, hl⟩ : a + m < N ∧ jdgt (g 0 (a + m)) = true), if_pos hl, jbO_some, jk_some, E_m_token_84, if_neg (by decide), jup_same]
        by_cases hbig : 99999 < jnd (g 0) a m
        · rw [if_pos (show (99999 : Int32) < Int32.ofNat (jnd (g 0) a m) from jlt_t (a := 99999) hbig (by omega))]
          exact h102 _ (by rw [jnd, if_pos hbig])
        · rw [if_neg (show ¬ (99999 : Int32) < Int32.ofNat (jnd (g 0) a m) from jlt_n (a := 99999) (by omega) (by omega)), hh, jbO_some, jk_some, E_m_token_99]
          refine h102 _ ?_
          rw [jnd, if_neg hbig, hb, jclamp (show b0 < 2147483648 by omega), jofmullr, jofadd, show (48 : Int32) = Int32.ofNat 48 from rfl, ← Int32.ofNat_sub (10 * jnd (g 0) a m + b0) 48 (by omega)]
          apply congrArg Int32.ofNat; omega
      · rw [if_neg hl, jbO_some, jk_some, E_m_token_84, if_pos rfl, if_neg (fun q => hl q.2), show a + m - a = m by omega]
    · rw [if_neg hiN] at hh
      rw [L_m_token_81, hh, jbO_some, jk_some, E_m_token_83, M_isDigit, if_neg (by rw [jdgt_m1]; decide), jbO_some, jk_some, E_m_token_84, if_pos rfl, if_neg (fun q => hiN q.1), show a + m - a = m by omega]
