-- TOKENS: the class's steps
def jtape (v : Nat → Int32) (N : Nat) : Prop := ∀ i, i < N → ∃ b : Nat, b < 256 ∧ v i = Int32.ofNat b
theorem jtape_let {v : Nat → Int32} {N i : Nat} (h : jtape v N) (hi : i < N) (hl : jlet (v i) = true) : ∃ b, 97 ≤ b ∧ b ≤ 122 ∧ v i = Int32.ofNat b := by
  obtain ⟨b, hb, e⟩ := h i hi
  rw [e, jlet_b hb] at hl
  have := of_decide_eq_true hl
  exact ⟨b, this.1, this.2, e⟩
theorem jtape_dgt {v : Nat → Int32} {N i : Nat} (h : jtape v N) (hi : i < N) (hl : jdgt (v i) = true) : ∃ b, 48 ≤ b ∧ b ≤ 57 ∧ v i = Int32.ofNat b := by
  obtain ⟨b, hb, e⟩ := h i hi
  rw [e, jdgt_b hb] at hl
  have := of_decide_eq_true hl
  exact ⟨b, this.1, this.2, e⟩
theorem S_k_isLetter {D N i : Nat} {f : Nat → Int32} {g : Nat → Nat → Int32} {n2 : Nat → Nat → Int64} {p : Nat → Nat → Int32} {pa : Nat → Nat → Nat → Int32} {s : Nat → Nat → Int32} {sa : Nat → Nat → Nat → Int32} {sw : Bool} {rp : Value} {t : List jE} {z : Nat × Nat × Nat × (Nat → Int32)} (h9 : f 9 = Int32.ofNat N) (hN : N ≤ 700) (hi : i < 2147483648) : K_k_isLetter D (Int32.ofNat i) f g n2 p pa s sa sw rp t z = some (.inl (some (.int (if i < N ∧ jlet (g 0 i) = true then 1 else 0))), (jX f g n2 p pa s sa sw rp t, z)) := by
  rw [E_k_isLetter, h9]
  by_cases h : i < N
  · rw [if_pos (jlt_t h (by omega)), if_neg (jout_n (by omega) (by omega))]
    simp only [jclamp hi]
    by_cases h1 : g 0 i < 97
    · rw [if_pos h1, if_neg (by simp [jlet, h1])]
    · rw [if_neg h1, if_neg (jout_n (by omega) (by omega))]
      by_cases h2 : 122 < g 0 i
      · rw [if_pos h2, if_neg (by simp [jlet, h2])]
      · rw [if_neg h2, if_pos ⟨h, by simp [jlet, h1, h2]⟩]
  · rw [if_neg (jlt_n (by omega) hi), if_neg (fun q => h q.1)]
theorem S_k_isDigit {D N i : Nat} {f : Nat → Int32} {g : Nat → Nat → Int32} {n2 : Nat → Nat → Int64} {p : Nat → Nat → Int32} {pa : Nat → Nat → Nat → Int32} {s : Nat → Nat → Int32} {sa : Nat → Nat → Nat → Int32} {sw : Bool} {rp : Value} {t : List jE} {z : Nat × Nat × Nat × (Nat → Int32)} (h9 : f 9 = Int32.ofNat N) (hN : N ≤ 700) (hi : i < 2147483648) : K_k_isDigit D (Int32.ofNat i) f g n2 p pa s sa sw rp t z = some (.inl (some (.int (if i < N ∧ jdgt (g 0 i) = true then 1 else 0))), (jX f g n2 p pa s sa sw rp t, z)) := by
  rw [E_k_isDigit, h9]
  by_cases h : i < N
  · rw [if_pos (jlt_t h (by omega)), if_neg (jout_n (by omega) (by omega))]
    simp only [jclamp hi]
    by_cases h1 : g 0 i < 48
    · rw [if_pos h1, if_neg (by simp [jdgt, h1])]
    · rw [if_neg h1, if_neg (jout_n (by omega) (by omega))]
      by_cases h2 : 57 < g 0 i
      · rw [if_pos h2, if_neg (by simp [jdgt, h2])]
      · rw [if_neg h2, if_pos ⟨h, by simp [jdgt, h1, h2]⟩]
  · rw [if_neg (jlt_n (by omega) hi), if_neg (fun q => h q.1)]
theorem S_k_blank {D N : Nat} {f : Nat → Int32} {g : Nat → Nat → Int32} {n2 : Nat → Nat → Int64} {p : Nat → Nat → Int32} {pa : Nat → Nat → Nat → Int32} {s : Nat → Nat → Int32} {sa : Nat → Nat → Nat → Int32} {sw : Bool} {rp : Value} {t : List jE} {z : Nat × Nat × Nat × (Nat → Int32)} (h9 : f 9 = Int32.ofNat N) (hN : N ≤ 700) : ∀ k i, N - i ≤ k → i ≤ N →
    jev D 88 0 ([some (.ref 2)], []) [] ((jX (jup f 10 (Int32.ofNat i)) g n2 p pa s sa sw rp t, z)) = K_k_step_26 D (jup f 10 (Int32.ofNat (jrn jblk (g 0) N k i))) g n2 p pa s sa sw rp t z := by
  intro k
  induction k with
  | zero =>
    intro i hk hi
    rw [L_k_step_0, jup_same, show (jup f 10 (Int32.ofNat i)) 9 = Int32.ofNat N by rw [jup_ne (by omega)]; exact h9, if_neg (jlt_n (by omega) (by omega)), jrn]
  | succ k ih =>
    intro i hk hi
    rw [L_k_step_0, jup_same, show (jup f 10 (Int32.ofNat i)) 9 = Int32.ofNat N by rw [jup_ne (by omega)]; exact h9, jrn]
    by_cases hiN : i < N
    · have hjo : ¬ jout (Int32.ofNat i) 700 := jout_n (by omega) (by omega)
      rw [if_pos (jlt_t hiN (by omega)), if_neg hjo, if_neg hjo]
      simp only [jclamp (show i < 2147483648 by omega)]
      have h19 : K_k_step_19 D (jup f 10 (Int32.ofNat i)) g n2 p pa s sa sw rp t z = K_k_step_26 D (jup f 10 (Int32.ofNat (jrn jblk (g 0) N k (i + 1)))) g n2 p pa s sa sw rp t z := by
        rw [E_k_step_19, jup_same, jup_jup, jsucc]; exact ih (i + 1) (by omega) (by omega)
      by_cases h1 : g 0 i = 10
      · rw [if_pos h1, if_pos ⟨hiN, by simp [jblk, h1]⟩, h19]
      · rw [if_neg h1]
        by_cases h2 : g 0 i = 32
        · rw [if_pos h2, if_pos ⟨hiN, by simp [jblk, h2]⟩, h19]
        · rw [if_neg h2, if_neg (by simp [jblk, h1, h2])]
    · rw [if_neg (jlt_n (by omega) (by omega)), if_neg (fun q => hiN q.1)]
theorem S_k_rw4 {D N a : Nat} {d3 : Option Value} {f : Nat → Int32} {g : Nat → Nat → Int32} {n2 : Nat → Nat → Int64} {p : Nat → Nat → Int32} {pa : Nat → Nat → Nat → Int32} {s : Nat → Nat → Int32} {sa : Nat → Nat → Nat → Int32} {sw : Bool} {rp : Value} {t : List jE} {z : Nat × Nat × Nat × (Nat → Int32)} (h9 : f 9 = Int32.ofNat N) (hN : N ≤ 700) : ∀ k m, N - (a + m) ≤ k → a + m ≤ N →
    K_k_readWord_4 D (jpw (g 0) a m) (Int32.ofNat m) d3 (jup f 10 (Int32.ofNat (a + m))) g n2 p pa s sa sw rp t z = K_k_readWord_31 D (jpw (g 0) a (jrn jlet (g 0) N k (a + m) - a)) (Int32.ofNat (jrn jlet (g 0) N k (a + m) - a)) d3 (jup f 10 (Int32.ofNat (jrn jlet (g 0) N k (a + m)))) g n2 p pa s sa sw rp t z := by
  intro k
  induction k with
  | zero =>
    intro m hk hm
    rw [L_k_readWord_4, jup_same, show (jup f 10 (Int32.ofNat (a + m))) 9 = Int32.ofNat N by rw [jup_ne (by omega)]; exact h9, if_neg (jlt_n (by omega) (by omega)), jrn, show a + m - a = m by omega]
  | succ k ih =>
    intro m hk hm
    have h9' : (jup f 10 (Int32.ofNat (a + m))) 9 = Int32.ofNat N := by rw [jup_ne (by omega)]; exact h9
    rw [L_k_readWord_4, jup_same, h9', jrn]
    by_cases hiN : a + m < N
    · have hL := S_k_isLetter (D := D) (N := N) (i := a + m) (f := jup f 10 (Int32.ofNat (a + m))) (g := g) (n2 := n2) (p := p) (pa := pa) (s := s) (sa := sa) (sw := sw) (rp := rp) (t := t) (z := z) h9' hN (by omega)
      rw [if_pos (jlt_t hiN (by omega))]
      by_cases hl : jlet (g 0 (a + m)) = true
      · rw [if_pos (⟨hiN, hl⟩ : a + m < N ∧ jlet (g 0 (a + m)) = true)] at hL ⊢
        rw [hL, jbO_some, jk_some, E_k_readWord_13, if_neg (by decide), jup_same, if_neg (jout_n (by omega) (by omega)), jclamp (show a + m < 2147483648 by omega), E_k_pack]
        have hx : K_k_readWord_4 D (jpw (g 0) a (m + 1)) (Int32.ofNat (m + 1)) d3 (jup f 10 (Int32.ofNat (a + m + 1))) g n2 p pa s sa sw rp t z = K_k_readWord_31 D (jpw (g 0) a (jrn jlet (g 0) N k (a + m + 1) - a)) (Int32.ofNat (jrn jlet (g 0) N k (a + m + 1) - a)) d3 (jup f 10 (Int32.ofNat (jrn jlet (g 0) N k (a + m + 1)))) g n2 p pa s sa sw rp t z := ih (m + 1) (by omega) (by omega)
        rw [← hx, jpw]
        by_cases hm6 : m < 6
        · rw [if_pos (show Int32.ofNat m < 6 from jlt_t (b := 6) hm6 (by omega)), if_pos hm6]
          simp only [jbO_some, jbO_none, jbO_ite, jk_some, jk_none, E_k_readWord_22, jup_same, jup_jup, jsucc]
        · rw [if_neg (show ¬ Int32.ofNat m < 6 from jlt_n (b := 6) (by omega) (by omega)), if_neg hm6]
          simp only [jbO_some, jbO_none, jbO_ite, jk_some, jk_none, E_k_readWord_22, jup_same, jup_jup, jsucc]
      · rw [if_neg (fun q : a + m < N ∧ jlet (g 0 (a + m)) = true => hl q.2)] at hL ⊢
        rw [hL, jbO_some, jk_some, E_k_readWord_13, if_pos rfl, show a + m - a = m by omega]
    · rw [if_neg (jlt_n (by omega) (by omega)), if_neg (fun q => hiN q.1), show a + m - a = m by omega]
theorem S_k_readWord {D N a : Nat} {f : Nat → Int32} {g : Nat → Nat → Int32} {n2 : Nat → Nat → Int64} {p : Nat → Nat → Int32} {pa : Nat → Nat → Nat → Int32} {s : Nat → Nat → Int32} {sa : Nat → Nat → Nat → Int32} {sw : Bool} {rp : Value} {t : List jE} {z : Nat × Nat × Nat × (Nat → Int32)} (h9 : f 9 = Int32.ofNat N) (hN : N ≤ 700) (h10 : f 10 = Int32.ofNat a) (ha : a ≤ N) (htp : jtape (g 0) N) (hW : rWd g) :
    ∃ kd vl, K_k_readWord D f g n2 p pa s sa sw rp t z = some (.inl none, (jX (jup (jup (jup f 10 (Int32.ofNat (jrn jlet (g 0) N (N - a) a))) 11 kd) 12 vl) g n2 p pa s sa sw rp t, z)) ∧
      ((6 < jrn jlet (g 0) N (N - a) a - a ∧ kd = 1) ∨ (jrn jlet (g 0) N (N - a) a - a ≤ 6 ∧ ((∃ w, w < 22 ∧ kd = 4 ∧ vl = Int32.ofNat w ∧ jmt (g 0) a (jrn jlet (g 0) N (N - a) a - a) (jwrds.getD w []) ∧ ∀ w', w' < w → ¬ jmt (g 0) a (jrn jlet (g 0) N (N - a) a - a) (jwrds.getD w' [])) ∨ ((∀ w, w < 22 → ¬ jmt (g 0) a (jrn jlet (g 0) N (N - a) a - a) (jwrds.getD w [])) ∧ kd = 3 ∧ vl = Int32.ofNat (jlp (jlv (g 0) a (jrn jlet (g 0) N (N - a) a - a))))))) := by
  have h1 := S_k_rw4 (D := D) (a := a) (d3 := none) (f := f) (g := g) (n2 := n2) (p := p) (pa := pa) (s := s) (sa := sa) (sw := sw) (rp := rp) (t := t) (z := z) h9 hN (N - a) 0 (Nat.le_refl _) ha
  rw [show a + 0 = a from rfl, ← h10, jup_self] at h1
  have h1' : K_k_readWord_4 D 0 0 none f g n2 p pa s sa sw rp t z = _ := h1
  have hge : a ≤ jrn jlet (g 0) N (N - a) a := jrn_ge
  have hle : jrn jlet (g 0) N (N - a) a ≤ N := jrn_le ha
  have hlet : ∀ j, j < jrn jlet (g 0) N (N - a) a - a → ∃ b, 97 ≤ b ∧ b ≤ 122 ∧ g 0 (a + j) = Int32.ofNat b := fun j hj => jtape_let (N := N) htp (by omega) (jrn_in (N := N) (k := N - a) (i := a) (by omega) (by omega))
  rw [E_k_readWord, h1', E_k_readWord_31]
  generalize jrn jlet (g 0) N (N - a) a = e at *
  by_cases h6 : 6 < e - a
  · have hlt : (6 : Int32) < Int32.ofNat (e - a) := jlt_t (a := 6) h6 (by omega)
    refine ⟨1, jpw (g 0) a (e - a), ?_, Or.inl ⟨h6, rfl⟩⟩
    rw [if_pos hlt, E_k_readWord_38, L_k_readWord_44, if_pos (by decide), if_neg (by rw [jup_ne (by omega), jup_same]; decide)]
  · have hlt : ¬ (6 : Int32) < Int32.ofNat (e - a) := jlt_n (a := 6) (by omega) (by omega)
    rw [if_neg hlt, E_k_readWord_38, jpw_eq hlet]
    rcases S_k_w44 (D := D) (pk := Int32.ofNat (jlp (jlv (g 0) a (e - a)))) (d2 := some (.int (Int32.ofNat (e - a)))) (f := jup (jup (jup f 10 (Int32.ofNat e)) 11 3) 12 (Int32.ofNat (jlp (jlv (g 0) a (e - a))))) (g := g) (n2 := n2) (p := p) (pa := pa) (s := s) (sa := sa) (sw := sw) (rp := rp) (t := t) (z := z) (by rw [jup_ne (by omega), jup_same]) with ⟨w, hw, hg, hno, hk⟩ | ⟨hno, hk⟩
    · refine ⟨4, Int32.ofNat w, ?_, Or.inr ⟨by omega, Or.inl ⟨w, hw, rfl, rfl, (jmt_iff hlet (by omega) hw).mp ?_, fun w' hw' q => hno w' hw' ?_⟩⟩⟩
      · rw [hk]
        rw [show jup (jup (jup (jup (jup f 10 (Int32.ofNat e)) 11 3) 12 (Int32.ofNat (jlp (jlv (g 0) a (e - a))))) 11 4) 12 (Int32.ofNat w) = jup (jup (jup f 10 (Int32.ofNat e)) 11 4) 12 (Int32.ofNat w) by
          funext k
          by_cases k12 : k = 12
          · subst k12; rw [jup_same, jup_same]
          · rw [jup_ne k12, jup_ne k12]
            by_cases k11 : k = 11
            · subst k11; rw [jup_same, jup_same]
            · rw [jup_ne k11, jup_ne k12, jup_ne k11, jup_ne k11]]
      · rw [← hW w hw]; exact hg.symm
      · rw [hW w' (by omega)]; exact ((jmt_iff hlet (by omega) (by omega)).mpr q).symm
    · refine ⟨3, Int32.ofNat (jlp (jlv (g 0) a (e - a))), hk, Or.inr ⟨by omega, Or.inr ⟨fun w hw q => hno w hw ?_, rfl, rfl⟩⟩⟩
      rw [hW w hw]; exact ((jmt_iff hlet (by omega) hw).mpr q).symm
def jnc (v : Nat → Int32) (a : Nat) : Nat → Nat
  | 0 => 0
  | m + 1 => min (jnc v a m * 10 + ((v (a + m)).toNatClampNeg - 48)) 1000000
theorem jnc_le {v : Nat → Int32} {a : Nat} : ∀ {m : Nat}, jnc v a m ≤ 1000000
  | 0 => by rw [jnc]; omega
  | m + 1 => by rw [jnc]; omega
theorem S_k_rn3 {D N a : Nat} {f : Nat → Int32} {g : Nat → Nat → Int32} {n2 : Nat → Nat → Int64} {p : Nat → Nat → Int32} {pa : Nat → Nat → Nat → Int32} {s : Nat → Nat → Int32} {sa : Nat → Nat → Nat → Int32} {sw : Bool} {rp : Value} {t : List jE} {z : Nat × Nat × Nat × (Nat → Int32)} (h9 : f 9 = Int32.ofNat N) (hN : N ≤ 700) (htp : jtape (g 0) N) : ∀ k m, N - (a + m) ≤ k → a + m ≤ N →
    K_k_readNumber_3 D (jup (jup f 10 (Int32.ofNat (a + m))) 12 (Int32.ofNat (jnc (g 0) a m))) g n2 p pa s sa sw rp t z = some (.inl none, (jX (jup (jup f 10 (Int32.ofNat (jrn jdgt (g 0) N k (a + m)))) 12 (Int32.ofNat (jnc (g 0) a (jrn jdgt (g 0) N k (a + m) - a)))) g n2 p pa s sa sw rp t, z)) := by
  intro k
  induction k with
  | zero =>
    intro m hk hm
    have h9' : (jup (jup f 10 (Int32.ofNat (a + m))) 12 (Int32.ofNat (jnc (g 0) a m))) 9 = Int32.ofNat N := by rw [jup_ne (by omega), jup_ne (by omega)]; exact h9
    have h10' : (jup (jup f 10 (Int32.ofNat (a + m))) 12 (Int32.ofNat (jnc (g 0) a m))) 10 = Int32.ofNat (a + m) := by rw [jup_ne (by omega), jup_same]
    rw [L_k_readNumber_3, h9', h10', if_neg (jlt_n (by omega) (by omega)), jrn, show a + m - a = m by omega]
  | succ k ih =>
    intro m hk hm
    have h9' : (jup (jup f 10 (Int32.ofNat (a + m))) 12 (Int32.ofNat (jnc (g 0) a m))) 9 = Int32.ofNat N := by rw [jup_ne (by omega), jup_ne (by omega)]; exact h9
    have h10' : (jup (jup f 10 (Int32.ofNat (a + m))) 12 (Int32.ofNat (jnc (g 0) a m))) 10 = Int32.ofNat (a + m) := by rw [jup_ne (by omega), jup_same]
    rw [L_k_readNumber_3, h9', h10', jrn]
    by_cases hiN : a + m < N
    · have hL := S_k_isDigit (D := D) (N := N) (i := a + m) (f := jup (jup f 10 (Int32.ofNat (a + m))) 12 (Int32.ofNat (jnc (g 0) a m))) (g := g) (n2 := n2) (p := p) (pa := pa) (s := s) (sa := sa) (sw := sw) (rp := rp) (t := t) (z := z) h9' hN (by omega)
      rw [if_pos (jlt_t hiN (by omega))]
      by_cases hl : jdgt (g 0 (a + m)) = true
      · obtain ⟨b0, hb1, hb2, hb⟩ := jtape_dgt htp hiN hl
        have hcl := jnc_le (v := g 0) (a := a) (m := m)
        rw [if_pos (⟨hiN, hl⟩ : a + m < N ∧ jdgt (g 0 (a + m)) = true)] at hL ⊢
        rw [hL, jbO_some, jk_some, E_k_readNumber_12, if_neg (by decide), h10', jup_same, if_neg (jout_n (by omega) (by omega))]
        simp only [jclamp (show a + m < 2147483648 by omega)]
        have hv : (if Int32.ofNat (jnc (g 0) a m) * 10 + g 0 (a + m) - 48 < 1000000 then Int32.ofNat (jnc (g 0) a m) * 10 + g 0 (a + m) - 48 else 1000000) = Int32.ofNat (jnc (g 0) a (m + 1)) := by
          have e : Int32.ofNat (jnc (g 0) a m) * 10 + g 0 (a + m) - 48 = Int32.ofNat (jnc (g 0) a m * 10 + b0 - 48) := by
            rw [hb, jofmull, jofadd, show (48 : Int32) = Int32.ofNat 48 from rfl, ← Int32.ofNat_sub (jnc (g 0) a m * 10 + b0) 48 (by omega)]
          rw [e, jnc, hb, jclamp (show b0 < 2147483648 by omega)]
          by_cases hlt : jnc (g 0) a m * 10 + b0 - 48 < 1000000
          · rw [if_pos (show Int32.ofNat (jnc (g 0) a m * 10 + b0 - 48) < 1000000 from jlt_t (b := 1000000) hlt (by omega))]; apply congrArg Int32.ofNat; omega
          · rw [if_neg (show ¬ Int32.ofNat (jnc (g 0) a m * 10 + b0 - 48) < 1000000 from jlt_n (b := 1000000) (by omega) (by omega)), Nat.min_eq_right (by omega)]; rfl
        rw [hv, jsucc]
        have hx := ih (m + 1) (by omega) (by omega)
        rw [show a + (m + 1) = a + m + 1 by omega] at hx
        rw [← hx]
        congr 1
        funext k
        by_cases k12 : k = 12
        · subst k12; rw [jup_same, jup_same]
        · by_cases k10 : k = 10
          · subst k10; rw [jup_ne k12, jup_same, jup_ne k12, jup_same]
          · rw [jup_ne k12, jup_ne k10, jup_ne k12, jup_ne k10, jup_ne k12, jup_ne k10]
      · rw [if_neg (fun q : a + m < N ∧ jdgt (g 0 (a + m)) = true => hl q.2)] at hL ⊢
        rw [hL, jbO_some, jk_some, E_k_readNumber_12, if_pos rfl, show a + m - a = m by omega]
    · rw [if_neg (jlt_n (by omega) (by omega)), if_neg (fun q => hiN q.1), show a + m - a = m by omega]
