-- TOKENS: words, the class and the reference
def jmt (v : Nat → Int32) (a m : Nat) (W : List Nat) : Prop := m = W.length ∧ ∀ j, j < m → v (a + j) = Int32.ofNat (W.getD j 96)
theorem jwrds_p : ∀ w, w < 22 → jpkw (jwrds.getD w []) = Int32.ofNat (jlp (fun j => (jwrds.getD w []).getD j 96 - 96)) := by decide +kernel
theorem jwrds_l : ∀ w, w < 22 → (jwrds.getD w []).length ≤ 6 ∧ ∀ j, j < 6 → (j < (jwrds.getD w []).length → 97 ≤ (jwrds.getD w []).getD j 96 ∧ (jwrds.getD w []).getD j 96 ≤ 122) ∧ (¬ j < (jwrds.getD w []).length → (jwrds.getD w []).getD j 96 = 96) := by decide +kernel
theorem jofinj {a b : Nat} (ha : a < 2147483648) (hb : b < 2147483648) (h : Int32.ofNat a = Int32.ofNat b) : a = b := by
  have := congrArg Int32.toNatClampNeg h
  rwa [jclamp ha, jclamp hb] at this
theorem jlv_lt {v : Nat → Int32} {a m : Nat} (h : ∀ j, j < m → ∃ b, 97 ≤ b ∧ b ≤ 122 ∧ v (a + j) = Int32.ofNat b) : ∀ j, j < 6 → jlv v a m j < 32 := by
  intro j hj
  unfold jlv
  split
  · rename_i hm
    obtain ⟨b, h1, h2, h3⟩ := h j hm
    rw [h3, jclamp (by omega)]; omega
  · omega
theorem jmt_iff {v : Nat → Int32} {a m w : Nat} (h : ∀ j, j < m → ∃ b, 97 ≤ b ∧ b ≤ 122 ∧ v (a + j) = Int32.ofNat b) (hm : m ≤ 6) (hw : w < 22) : Int32.ofNat (jlp (jlv v a m)) = jpkw (jwrds.getD w []) ↔ jmt v a m (jwrds.getD w []) := by
  rw [jwrds_p w hw]
  have hl := jwrds_l w hw
  generalize jwrds.getD w [] = W at hl
  obtain ⟨hl1, hl2⟩ := hl
  have hW : ∀ j, j < 6 → W.getD j 96 - 96 < 32 := by
    intro j hj
    by_cases hjl : j < W.length
    · have := (hl2 j hj).1 hjl; omega
    · have := (hl2 j hj).2 hjl; omega
  constructor
  · intro e
    have e1 := jofinj (by have := jlp_lt (jlv_lt h); omega) (by have := jlp_lt hW; omega) e
    have e2 := jlp_inj (jlv_lt h) hW e1
    have hml : m = W.length := by
      rcases Nat.lt_trichotomy m W.length with hlt | heq | hgt
      · have q := e2 m (by omega)
        have q2 := (hl2 m (by omega)).1 hlt
        unfold jlv at q; rw [if_neg (by omega)] at q; omega
      · exact heq
      · have q := e2 W.length (by omega)
        have q2 := (hl2 W.length (by omega)).2 (by omega)
        obtain ⟨b, h1, h2, h3⟩ := h W.length hgt
        unfold jlv at q; rw [if_pos hgt, h3, jclamp (by omega)] at q; omega
    refine ⟨hml, fun j hj => ?_⟩
    obtain ⟨b, h1, h2, h3⟩ := h j hj
    have q := e2 j (by omega)
    have q2 := (hl2 j (by omega)).1 (by omega)
    unfold jlv at q; rw [if_pos hj, h3, jclamp (by omega)] at q
    rw [h3]; congr 1; omega
  · rintro ⟨hml, hj⟩
    apply congrArg Int32.ofNat
    apply jlp_congr
    intro j hj6
    unfold jlv
    by_cases hjm : j < m
    · rw [if_pos hjm, hj j hjm, jclamp (by have := (hl2 j hj6).1 (by omega); omega)]
    · rw [if_neg hjm, (hl2 j hj6).2 (by omega)]
theorem S_k_w44 {D : Nat} {pk : Int32} {d2 : Option Value} {f : Nat → Int32} {g : Nat → Nat → Int32} {n2 : Nat → Nat → Int64} {p : Nat → Nat → Int32} {pa : Nat → Nat → Nat → Int32} {s : Nat → Nat → Int32} {sa : Nat → Nat → Nat → Int32} {sw : Bool} {rp : Value} {t : List jE} {z : Nat × Nat × Nat × (Nat → Int32)} (h11 : f 11 = 3) :
    (∃ w, w < 22 ∧ g 1 w = pk ∧ (∀ w', w' < w → ¬ g 1 w' = pk) ∧ K_k_readWord_44 D pk d2 0 f g n2 p pa s sa sw rp t z = some (.inl none, (jX (jup (jup f 11 4) 12 (Int32.ofNat w)) g n2 p pa s sa sw rp t, z))) ∨ ((∀ w, w < 22 → ¬ g 1 w = pk) ∧ K_k_readWord_44 D pk d2 0 f g n2 p pa s sa sw rp t z = some (.inl none, (jX f g n2 p pa s sa sw rp t, z))) := by
  have key : ∀ k, k ≤ 22 → (∃ w, w < 22 ∧ g 1 w = pk ∧ (∀ w', w' < w → ¬ g 1 w' = pk) ∧ K_k_readWord_44 D pk d2 0 f g n2 p pa s sa sw rp t z = some (.inl none, (jX (jup (jup f 11 4) 12 (Int32.ofNat w)) g n2 p pa s sa sw rp t, z))) ∨ ((∀ w, w < k → ¬ g 1 w = pk) ∧ K_k_readWord_44 D pk d2 0 f g n2 p pa s sa sw rp t z = K_k_readWord_44 D pk d2 (Int32.ofNat k) f g n2 p pa s sa sw rp t z) := by
    intro k
    induction k with
    | zero => intro _; exact Or.inr ⟨fun w hw => absurd hw (Nat.not_lt_zero w), rfl⟩
    | succ k ih =>
      intro hk
      rcases ih (by omega) with h | ⟨hn, he⟩
      · exact Or.inl h
      have hlt : Int32.ofNat k < 22 := jlt_t (b := 22) (by omega) (by omega)
      have hcl : (Int32.ofNat k).toNatClampNeg = k := jclamp (by omega)
      by_cases hg : g 1 k = pk
      · refine Or.inl ⟨k, by omega, hg, hn, ?_⟩
        rw [he, L_k_readWord_44, if_pos hlt, if_pos h11, if_neg (jout_n (by omega) (by omega)), hcl, if_pos hg, E_k_readWord_63, jsucc, L_k_readWord_44]
        have h114 : ¬ (jup (jup f 11 4) 12 (Int32.ofNat k)) 11 = 3 := by rw [jup_ne (by omega), jup_same]; decide
        rw [if_neg h114]
        split <;> rfl
      · refine Or.inr ⟨fun w hw => ?_, ?_⟩
        · by_cases hwk : w = k
          · subst hwk; exact hg
          · exact hn w (by omega)
        · rw [he, L_k_readWord_44, if_pos hlt, if_pos h11, if_neg (jout_n (by omega) (by omega)), hcl, if_neg hg, E_k_readWord_63, jsucc]
  rcases key 22 (Nat.le_refl 22) with h | ⟨hn, he⟩
  · exact Or.inl h
  · refine Or.inr ⟨hn, ?_⟩
    rw [he, L_k_readWord_44, if_neg (by decide)]
def rwrds : List (List Nat) := [[102,105,101,108,100],[99,114,111,112],[115,99,97,114,101],[102,108,97,112],[109,111,115,116],[99,114,111,119,115],[119,105,110,100],[103,117,115,116],[115,101,101,100],[108,97,119],[115,101,101],[101,97,116],[112,97,121],[111,114],[97,110,100],[110,111,116],[115,105,103,104,116],[102,97,114],[119,105,110,100],[104,111,117,114],[103,114,97,100,101],[114,105,112,101],[100,97,116,101]]
def rko : Nat → Nat
  | 0 => 0
  | n + 1 => rko n + (rwrds.getD n []).length + 1
theorem rko_p : ∀ n, n < 23 → rko n < 111 ∧ rko n + (rwrds.getD n []).length < 111 ∧ jtxt 2 (rko n + (rwrds.getD n []).length) = 32 ∧ (rwrds.getD n []).length < 7 ∧ ∀ j, j < 7 → j < (rwrds.getD n []).length → jtxt 2 (rko n + j) = (rwrds.getD n []).getD j 96 ∧ 97 ≤ (rwrds.getD n []).getD j 96 ∧ (rwrds.getD n []).getD j 96 ≤ 122 := by decide +kernel
theorem rko_e : rko 23 = 111 := by decide +kernel
theorem M_word_10 {D nw a e : Nat} {cx : jCX} {f : Nat → Int32} {g : Nat → Nat → Int32} {n : Nat → Nat → Int64} {b : Nat → Nat → Int32} {l : Nat → Int64} {t : List jE} {z : Nat × Nat × Nat × (Nat → Int32)} (hn : nw < 23) (hN : e ≤ 700) (h6 : f 6 = Int32.ofNat a) (h5 : f 5 = Int32.ofNat e) (hae : a ≤ e) :
    ∀ c i, (rwrds.getD nw []).length - i = c → i ≤ (rwrds.getD nw []).length → (∀ j, j < i → j < e - a ∧ g 0 (a + j) = Int32.ofNat ((rwrds.getD nw []).getD j 96)) →
      (jmt (g 0) a (e - a) (rwrds.getD nw []) ∧ K_m_word_10 D (Int32.ofNat nw) (Int32.ofNat (rko nw)) (Int32.ofNat i) cx f g n b l t z = some (.inl (some (.int (Int32.ofNat nw))), (jXt cx (jY f g n b l t), z))) ∨ (¬ jmt (g 0) a (e - a) (rwrds.getD nw []) ∧ ∃ d, K_m_word_10 D (Int32.ofNat nw) (Int32.ofNat (rko nw)) (Int32.ofNat i) cx f g n b l t z = K_m_word_55 D (Int32.ofNat nw) (Int32.ofNat (rko nw)) d cx f g n b l t z) := by
  obtain ⟨hk1, hk2, hk3, hk4, hk5⟩ := rko_p nw hn
  intro c
  induction c with
  | zero =>
    intro i hc hi hj
    have hiL : i = (rwrds.getD nw []).length := by omega
    have e1 : K_m_word_10 D (Int32.ofNat nw) (Int32.ofNat (rko nw)) (Int32.ofNat i) cx f g n b l t z = K_m_word_39 D (Int32.ofNat nw) (Int32.ofNat (rko nw)) (Int32.ofNat i) cx f g n b l t z := by
      rw [L_m_word_10, jofadd, if_neg (jout_n (by omega) (by omega))]
      simp only [jclamp (show rko nw + i < 2147483648 by omega)]
      rw [if_pos (by rw [hiL, hk3]; decide)]
    rw [e1, E_m_word_39, jofadd, if_neg (jout_n (by omega) (by omega)), jclamp (show rko nw + i < 2147483648 by omega), hiL, hk3, if_pos (by decide), h6, h5, jofadd]
    by_cases hm : e - a = (rwrds.getD nw []).length
    · refine Or.inl ⟨⟨hm, fun j hj2 => (hj j (by omega)).2⟩, ?_⟩
      rw [if_pos (by congr 1; omega)]
    · refine Or.inr ⟨fun q => hm q.1, ?_⟩
      rw [if_neg (fun q => hm (by have := jofinj (by omega) (by omega) q; omega))]
      exact ⟨_, rfl⟩
  | succ c ih =>
    intro i hc hi hj
    have hiL : i < (rwrds.getD nw []).length := by omega
    obtain ⟨q1, q2, q3⟩ := hk5 i (by omega) hiL
    have hn32 : ¬ Int32.ofNat (jtxt 2 (rko nw + i)) = 32 := by
      rw [q1]; intro q
      have := jofinj (b := 32) (by omega) (by omega) q
      omega
    have h39 : K_m_word_39 D (Int32.ofNat nw) (Int32.ofNat (rko nw)) (Int32.ofNat i) cx f g n b l t z = K_m_word_55 D (Int32.ofNat nw) (Int32.ofNat (rko nw)) (some (.int (Int32.ofNat i))) cx f g n b l t z := by
      rw [E_m_word_39, jofadd, if_neg (jout_n (by omega) (by omega)), jclamp (show rko nw + i < 2147483648 by omega), if_neg hn32]
    have hstep : K_m_word_10 D (Int32.ofNat nw) (Int32.ofNat (rko nw)) (Int32.ofNat i) cx f g n b l t z = if a + i < e then (if g 0 (a + i) = Int32.ofNat ((rwrds.getD nw []).getD i 96) then K_m_word_10 D (Int32.ofNat nw) (Int32.ofNat (rko nw)) (Int32.ofNat (i + 1)) cx f g n b l t z else K_m_word_55 D (Int32.ofNat nw) (Int32.ofNat (rko nw)) (some (.int (Int32.ofNat i))) cx f g n b l t z) else K_m_word_55 D (Int32.ofNat nw) (Int32.ofNat (rko nw)) (some (.int (Int32.ofNat i))) cx f g n b l t z := by
      rw [L_m_word_10, jofadd, if_neg (jout_n (by omega) (by omega))]
      simp only [jclamp (show rko nw + i < 2147483648 by omega)]
      rw [if_neg hn32, h6, h5, jofadd, jsucc, h39, q1]
      by_cases hae2 : a + i < e
      · rw [if_pos (jlt_t hae2 (by omega)), if_pos hae2, if_neg (jout_n (by omega) (by omega)), if_neg (jout_n (by omega) (by omega))]
        simp only [jclamp (show a + i < 2147483648 by omega)]
      · rw [if_neg (jlt_n (by omega) (by omega)), if_neg hae2]
    rw [hstep]
    by_cases hae2 : a + i < e
    · rw [if_pos hae2]
      by_cases hg : g 0 (a + i) = Int32.ofNat ((rwrds.getD nw []).getD i 96)
      · rw [if_pos hg]
        refine ih (i + 1) (by omega) (by omega) (fun j hj2 => ?_)
        by_cases hji : j = i
        · subst hji; exact ⟨by omega, hg⟩
        · exact hj j (by omega)
      · rw [if_neg hg]
        exact Or.inr ⟨fun q => hg (q.2 i (by omega)), _, rfl⟩
    · rw [if_neg hae2]
      exact Or.inr ⟨fun q => by have := q.1; omega, _, rfl⟩
theorem M_word_55 {D nw : Nat} {d : Option Value} {cx : jCX} {f : Nat → Int32} {g : Nat → Nat → Int32} {n : Nat → Nat → Int64} {b : Nat → Nat → Int32} {l : Nat → Int64} {t : List jE} {z : Nat × Nat × Nat × (Nat → Int32)} (hn : nw < 23) : ∀ c i, (rwrds.getD nw []).length - i = c → i ≤ (rwrds.getD nw []).length → K_m_word_55 D (Int32.ofNat nw) (Int32.ofNat (rko nw + i)) d cx f g n b l t z = K_m_word_4 D (Int32.ofNat (nw + 1)) (Int32.ofNat (rko (nw + 1))) d cx f g n b l t z := by
  obtain ⟨hk1, hk2, hk3, hk4, hk5⟩ := rko_p nw hn
  intro c
  induction c with
  | zero =>
    intro i hc hi
    have hiL : i = (rwrds.getD nw []).length := by omega
    rw [L_m_word_55, if_neg (jout_n (by omega) (by omega)), jclamp (show rko nw + i < 2147483648 by omega), hiL, hk3, if_pos (by decide), jsucc, jsucc]
    rfl
  | succ c ih =>
    intro i hc hi
    have hiL : i < (rwrds.getD nw []).length := by omega
    obtain ⟨q1, q2, q3⟩ := hk5 i (by omega) hiL
    have hn32 : ¬ Int32.ofNat (jtxt 2 (rko nw + i)) = 32 := by
      rw [q1]; intro q
      have := jofinj (b := 32) (by omega) (by omega) q
      omega
    rw [L_m_word_55, if_neg (jout_n (by omega) (by omega)), jclamp (show rko nw + i < 2147483648 by omega), if_neg hn32, jsucc]
    exact ih (i + 1) (by omega) (by omega)
theorem M_word {D a e : Nat} {cx : jCX} {f : Nat → Int32} {g : Nat → Nat → Int32} {n : Nat → Nat → Int64} {b : Nat → Nat → Int32} {l : Nat → Int64} {t : List jE} {z : Nat × Nat × Nat × (Nat → Int32)} (hN : e ≤ 700) (h6 : f 6 = Int32.ofNat a) (h5 : f 5 = Int32.ofNat e) (hae : a ≤ e) :
    (∃ n', n' < 23 ∧ jmt (g 0) a (e - a) (rwrds.getD n' []) ∧ (∀ w, w < n' → ¬ jmt (g 0) a (e - a) (rwrds.getD w [])) ∧ K_m_word D cx f g n b l t z = some (.inl (some (.int (Int32.ofNat n'))), (jXt cx (jY f g n b l t), z))) ∨ ((∀ w, w < 23 → ¬ jmt (g 0) a (e - a) (rwrds.getD w [])) ∧ K_m_word D cx f g n b l t z = some (.inl (some (.int (-1))), (jXt cx (jY f g n b l t), z))) := by
  have key : ∀ k, k ≤ 23 → (∃ n', n' < 23 ∧ jmt (g 0) a (e - a) (rwrds.getD n' []) ∧ (∀ w, w < n' → ¬ jmt (g 0) a (e - a) (rwrds.getD w [])) ∧ K_m_word D cx f g n b l t z = some (.inl (some (.int (Int32.ofNat n'))), (jXt cx (jY f g n b l t), z))) ∨ ((∀ w, w < k → ¬ jmt (g 0) a (e - a) (rwrds.getD w [])) ∧ ∃ d, K_m_word D cx f g n b l t z = K_m_word_4 D (Int32.ofNat k) (Int32.ofNat (rko k)) d cx f g n b l t z) := by
    intro k
    induction k with
    | zero => intro _; exact Or.inr ⟨fun w hw => absurd hw (Nat.not_lt_zero w), none, by rw [E_m_word]; rfl⟩
    | succ k ih =>
      intro hk
      rcases ih (by omega) with h | ⟨hno, d, he⟩
      · exact Or.inl h
      have hk1 := (rko_p k (by omega)).1
      rw [L_m_word_4, if_pos (jlt_t (by omega) (by omega))] at he
      rcases M_word_10 (D := D) (nw := k) (a := a) (e := e) (cx := cx) (f := f) (g := g) (n := n) (b := b) (l := l) (t := t) (z := z) (by omega) hN h6 h5 hae _ 0 rfl (Nat.zero_le _) (fun j hj => absurd hj (Nat.not_lt_zero j)) with ⟨hm, h10⟩ | ⟨hm, d', h10⟩
      · exact Or.inl ⟨k, by omega, hm, hno, by rw [he]; exact h10⟩
      · have h10' : K_m_word_10 D (Int32.ofNat k) (Int32.ofNat (rko k)) 0 cx f g n b l t z = _ := h10
        refine Or.inr ⟨fun w hw => ?_, d', ?_⟩
        · by_cases hwk : w = k
          · subst hwk; exact hm
          · exact hno w (by omega)
        · rw [he, h10']
          exact M_word_55 (nw := k) (by omega) _ 0 rfl (Nat.zero_le _)
  rcases key 23 (Nat.le_refl 23) with h | ⟨hno, d, he⟩
  · exact Or.inl h
  · refine Or.inr ⟨hno, ?_⟩
    rw [he, rko_e, L_m_word_4, if_neg (jlt_n (by omega) (by omega))]
def jhn (l : Nat → Nat) : Nat → Nat
  | 0 => 0
  | k + 1 => jhn l k * 32 + l k
theorem M_name {D a e : Nat} {cx : jCX} {f : Nat → Int32} {g : Nat → Nat → Int32} {n : Nat → Nat → Int64} {b : Nat → Nat → Int32} {l : Nat → Int64} {t : List jE} {z : Nat × Nat × Nat × (Nat → Int32)} (hN : e ≤ 700) (h6 : f 6 = Int32.ofNat a) (h5 : f 5 = Int32.ofNat e) (hae : a ≤ e) (h : ∀ j, j < e - a → ∃ b, 97 ≤ b ∧ b ≤ 122 ∧ g 0 (a + j) = Int32.ofNat b) :
    K_m_name D cx f g n b l t z = some (.inl none, (jXt cx (jY (jup f 8 (Int32.ofNat (jlp (jlv (g 0) a (e - a))))) g n b l t), z)) := by
  have key : ∀ k, k ≤ 6 → K_m_name D cx f g n b l t z = K_m_name_5 D (Int32.ofNat k) cx (jup f 8 (Int32.ofNat (jhn (jlv (g 0) a (e - a)) k))) g n b l t z := by
    intro k
    induction k with
    | zero => intro _; rw [E_m_name]; rfl
    | succ k ih =>
      intro hk
      have hlt : Int32.ofNat k < 6 := jlt_t (b := 6) (by omega) (by omega)
      have hl : jlv (g 0) a (e - a) k < 2 ^ 5 := jlv_lt h k (by omega)
      rw [ih (by omega), L_m_name_5, if_pos hlt]
      rw [show (jup f 8 (Int32.ofNat (jhn (jlv (g 0) a (e - a)) k))) 6 = Int32.ofNat a by rw [jup_ne (by omega)]; exact h6, show (jup f 8 (Int32.ofNat (jhn (jlv (g 0) a (e - a)) k))) 5 = Int32.ofNat e by rw [jup_ne (by omega)]; exact h5, jup_same, jofadd]
      have hsh : Int32.ofNat (jhn (jlv (g 0) a (e - a)) k) <<< (5 &&& 31 : Int32) = Int32.ofNat (jhn (jlv (g 0) a (e - a)) k * 2 ^ 5) := jshl32 (s := 5) (by omega)
      rw [hsh]
      by_cases hke : a + k < e
      · obtain ⟨b0, hb1, hb2, hb⟩ := h k (by omega)
        have hlk : jlv (g 0) a (e - a) k = b0 - 96 := by unfold jlv; rw [if_pos (by omega), hb, jclamp (by omega)]
        rw [if_pos (jlt_t hke (by omega)), if_neg (jout_n (by omega) (by omega)), jclamp (show a + k < 2147483648 by omega), hb, jlet1 hb1 (by omega), E_m_name_33, jup_jup, jsucc, jor32, ← hlk, jorl hl]
        rfl
      · have hlk : jlv (g 0) a (e - a) k = 0 := by unfold jlv; rw [if_neg (by omega)]
        rw [if_neg (jlt_n (by omega) (by omega)), E_m_name_33, jup_jup, jsucc, Int32.or_zero, jhn, hlk]
        rfl
  rw [key 6 (Nat.le_refl 6), L_m_name_5, if_neg (by decide)]
  have : jhn (jlv (g 0) a (e - a)) 6 = jlp (jlv (g 0) a (e - a)) := by
    simp only [jhn, jlp]; omega
  rw [this]
