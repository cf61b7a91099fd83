-- TOKENS: a step of both
def rsg : List (Int32 × Int32) := [(100, 59), (101, 40), (102, 41), (5, 60), (6, 256), (7, 61), (8, 257), (9, 62), (10, 258), (11, 43), (12, 45), (13, 42), (14, 47)]
def wmp (w : Nat) : Nat := if w < 6 then w else if w = 17 then 6 else w + 1
/-- a token of the class and the reference's -/
def rTk (kd vl so va : Int32) : Prop :=
  (kd = 0 ∧ so = 4) ∨ (kd = 1 ∧ so = 5) ∨ (kd = 2 ∧ so = 2 ∧ ∃ x y : Nat, vl = Int32.ofNat x ∧ va = Int32.ofNat y ∧ x ≤ 1000000 ∧ y ≤ 1000000 ∧ ((x = y ∧ x ≤ 99999) ∨ (99999 < x ∧ 99999 < y))) ∨
  (kd = 3 ∧ so = 1 ∧ va = vl) ∨ (kd = 4 ∧ so = 0 ∧ ∃ w, w < 22 ∧ vl = Int32.ofNat w ∧ va = Int32.ofNat (wmp w)) ∨ (kd = 5 ∧ so = 3 ∧ (vl, va) ∈ rsg)
def rPos (N : Nat) (f mf : Nat → Int32) : Prop := N ≤ 700 ∧ f 9 = Int32.ofNat N ∧ mf 4 = Int32.ofNat N ∧ ∃ i, i ≤ N ∧ f 10 = Int32.ofNat i ∧ mf 5 = Int32.ofNat i
def rTok (N : Nat) (f mf : Nat → Int32) : Prop := rPos N f mf ∧ (∃ pl, pl ≤ N ∧ f 13 = Int32.ofNat pl ∧ mf 6 = Int32.ofNat pl) ∧ rTk (f 11) (f 12) (mf 7) (mf 8)
def jmu (N : Nat) (f : Nat → Int32) : Nat := N - (f 10).toNatClampNeg + (if f 11 = 0 then 0 else 1)
def rTp (N : Nat) (g mg : Nat → Nat → Int32) : Prop := jtape (g 0) N ∧ (∀ i, i < N → mg 0 i = g 0 i) ∧ rWd g
theorem wmp_ok : ∀ w, w < 22 → wmp w < 23 ∧ rwrds.getD (wmp w) [] = jwrds.getD w [] ∧ ∀ x, x < wmp w → ¬ rwrds.getD x [] = jwrds.getD w [] := by decide +kernel
theorem wmp_in : ∀ x, x < 23 → ∃ w, w < 22 ∧ rwrds.getD x [] = jwrds.getD w [] := by decide +kernel
theorem jmt_congr {v v' : Nat → Int32} {a m : Nat} {W : List Nat} (h : ∀ j, j < m → v' (a + j) = v (a + j)) : jmt v' a m W ↔ jmt v a m W := by
  unfold jmt
  constructor
  · rintro ⟨h1, h2⟩; exact ⟨h1, fun j hj => by rw [← h j hj]; exact h2 j hj⟩
  · rintro ⟨h1, h2⟩; exact ⟨h1, fun j hj => by rw [h j hj]; exact h2 j hj⟩
theorem jmt_det {v : Nat → Int32} {a m : Nat} {W W' : List Nat} (h : jmt v a m W) (h' : jmt v a m W') (hW : ∀ j, j < m → W.getD j 96 < 256) (hW' : ∀ j, j < m → W'.getD j 96 < 256) : W = W' := by
  apply List.ext_getElem (by rw [← h.1, ← h'.1])
  intro j h1 h2
  have hj : j < m := by rw [h.1]; exact h1
  have e := jofinj (by have := hW j hj; omega) (by have := hW' j hj; omega) ((h.2 j hj).symm.trans (h'.2 j hj))
  simpa [List.getD_eq_getElem?_getD, h1, h2] using e
theorem jwrds_b {w : Nat} (hw : w < 22) : ∀ j, j < 6 → (jwrds.getD w []).getD j 96 < 256 := by
  intro j hj
  have := (jwrds_l w hw).2 j hj
  by_cases h : j < (jwrds.getD w []).length
  · have := this.1 h; omega
  · have := this.2 h; omega
theorem rwrds_b {x : Nat} (hx : x < 23) : ∀ j, j < 6 → (rwrds.getD x []).getD j 96 < 256 := by
  obtain ⟨w, hw, e⟩ := wmp_in x hx
  rw [e]; exact jwrds_b hw
theorem jsg_rel {c bh hr : Int32} {i : Nat} (h61 : bh = 61 ↔ hr = 61) (h62 : bh = 62 ↔ hr = 62) : (jsgc c bh i).1 = (jsgm c hr i).1 ∧ ((jsgc c bh i).1 = Int32.ofNat (i + 1) ∨ ((bh = 61 ∨ bh = 62) ∧ (jsgc c bh i).1 = Int32.ofNat (i + 2))) ∧ ¬ (jsgc c bh i).2.1 = 0 ∧ rTk (jsgc c bh i).2.1 (jsgc c bh i).2.2 (jsgm c hr i).2.1 (jsgm c hr i).2.2 := by
  unfold jsgc jsgm
  by_cases a1 : c = 60 ∧ bh = 61
  · rw [if_pos a1, if_pos ⟨a1.1, h61.mp a1.2⟩]
    exact ⟨rfl, Or.inr ⟨Or.inl a1.2, rfl⟩, show ¬ (5 : Int32) = 0 by decide, by unfold rTk rsg; simp⟩
  rw [if_neg a1, if_neg (fun q : c = 60 ∧ hr = 61 => a1 ⟨q.1, h61.mpr q.2⟩)]
  by_cases a2 : c = 60 ∧ bh = 62
  · rw [if_pos a2, if_pos ⟨a2.1, h62.mp a2.2⟩]
    exact ⟨rfl, Or.inr ⟨Or.inr a2.2, rfl⟩, show ¬ (5 : Int32) = 0 by decide, by unfold rTk rsg; simp⟩
  rw [if_neg a2, if_neg (fun q : c = 60 ∧ hr = 62 => a2 ⟨q.1, h62.mpr q.2⟩)]
  by_cases a3 : c = 62 ∧ bh = 61
  · rw [if_pos a3, if_pos ⟨a3.1, h61.mp a3.2⟩]
    exact ⟨rfl, Or.inr ⟨Or.inl a3.2, rfl⟩, show ¬ (5 : Int32) = 0 by decide, by unfold rTk rsg; simp⟩
  rw [if_neg a3, if_neg (fun q : c = 62 ∧ hr = 61 => a3 ⟨q.1, h61.mpr q.2⟩)]
  refine ⟨rfl, Or.inl rfl, ?_, ?_⟩
  · dsimp only; split <;> decide
  · dsimp only
    by_cases h40 : c = 40
    · subst h40; unfold rTk rsg; simp +decide [jsn]
    by_cases h41 : c = 41
    · subst h41; unfold rTk rsg; simp +decide [jsn]
    by_cases h42 : c = 42
    · subst h42; unfold rTk rsg; simp +decide [jsn]
    by_cases h43 : c = 43
    · subst h43; unfold rTk rsg; simp +decide [jsn]
    by_cases h45 : c = 45
    · subst h45; unfold rTk rsg; simp +decide [jsn]
    by_cases h47 : c = 47
    · subst h47; unfold rTk rsg; simp +decide [jsn]
    by_cases h59 : c = 59
    · subst h59; unfold rTk rsg; simp +decide [jsn]
    by_cases h60 : c = 60
    · subst h60; unfold rTk rsg; simp +decide [jsn]
    by_cases h61 : c = 61
    · subst h61; unfold rTk rsg; simp +decide [jsn]
    by_cases h62 : c = 62
    · subst h62; unfold rTk rsg; simp +decide [jsn]
    have hj : jsn c = -1 := by simp only [jsn, h40, h41, h42, h43, h45, h47, h59, h60, h61, h62, if_false]
    rw [if_pos hj, if_pos hj]
    exact Or.inr (Or.inl ⟨rfl, rfl⟩)
theorem T_step {D D' N : Nat} {f : Nat → Int32} {g : Nat → Nat → Int32} {n2 : Nat → Nat → Int64} {p : Nat → Nat → Int32} {pa : Nat → Nat → Nat → Int32} {s : Nat → Nat → Int32} {sa : Nat → Nat → Nat → Int32} {sw : Bool} {rp : Value} {t : List jE} {z : Nat × Nat × Nat × (Nat → Int32)} {cx : jCX} {mf : Nat → Int32} {mg : Nat → Nat → Int32} {mn : Nat → Nat → Int64} {mb : Nat → Nat → Int32} {ml : Nat → Int64} {t1 : List jE} {z1 : Nat × Nat × Nat × (Nat → Int32)} (hp : rPos N f mf) (ht : rTp N g mg) :
    ∃ f' mf', K_k_step D f g n2 p pa s sa sw rp t z = some (.inl none, (jX f' g n2 p pa s sa sw rp t, z)) ∧ K_m_token D' cx mf mg mn mb ml t1 z1 = some (.inl none, (jXt cx (jY mf' mg mn mb ml t1), z1)) ∧ rTok N f' mf' ∧ (∀ k, k < 10 ∨ 13 < k → f' k = f k) ∧ (∀ k, k < 4 ∨ 8 < k → mf' k = mf k) ∧ jmu N f' ≤ N - (f 10).toNatClampNeg := by
  obtain ⟨hN, h9, m4, i, hi, h10, m5⟩ := hp
  obtain ⟨htp, heq, hW⟩ := ht
  have htm : jtape (mg 0) N := fun j hj => by rw [heq j hj]; exact htp j hj
  have c1 := S_k_blank (D := D) (N := N) (f := f) (g := g) (n2 := n2) (p := p) (pa := pa) (s := s) (sa := sa) (sw := sw) (rp := rp) (t := t) (z := z) h9 hN (N - i) i (Nat.le_refl _) hi
  rw [← h10, jup_self] at c1
  have r1 := M_blank (D := D') (N := N) (d1 := none) (cx := cx) (f := mf) (g := mg) (n := mn) (b := mb) (l := ml) (t := t1) (z := z1) m4 hN (N - i) i (Nat.le_refl _) hi
  rw [← m5, jup_self, jrn_congr heq] at r1
  rw [E_k_step, c1, E_m_token, r1, h10, jclamp (show i < 2147483648 by omega)]
  have hia : i ≤ jrn jblk (g 0) N (N - i) i := jrn_ge
  have haN : jrn jblk (g 0) N (N - i) i ≤ N := jrn_le hi
  generalize jrn jblk (g 0) N (N - i) i = a at hia haN
  clear c1 r1
  have f19 : (jup f 10 (Int32.ofNat a)) 9 = Int32.ofNat N := by rw [jup_ne (by omega)]; exact h9
  have hh := M_here (D := D') (N := N) (i := a) (cx := cx) (f := jup (jup mf 5 (Int32.ofNat a)) 6 (Int32.ofNat a)) (g := mg) (n := mn) (b := mb) (l := ml) (t := t1) (z := z1) (by simp (disch := omega) only [jup_ne]; exact m4) hN (by simp (disch := omega) only [jup_ne, jup_same]) (by omega)
  rw [hh]
  by_cases haN2 : a < N
  rotate_left
  · have haN3 : a = N := by omega
    rw [if_neg haN2, jbO_some, jk_some, E_m_token_21, if_pos rfl, E_k_step_26, f19, jup_same, if_neg (jlt_n (by omega) (by omega))]
    refine ⟨_, _, rfl, rfl, ⟨⟨hN, ?_, ?_, a, haN, ?_, ?_⟩, ⟨a, haN, ?_, ?_⟩, Or.inl ⟨?_, ?_⟩⟩, fun k hk => ?_, fun k hk => ?_, ?_⟩
    · simp (disch := omega) only [jup_ne]; exact h9
    · simp (disch := omega) only [jup_ne]; exact m4
    · simp (disch := omega) only [jup_ne, jup_same]
    · simp (disch := omega) only [jup_ne, jup_same]
    · simp (disch := omega) only [jup_ne, jup_same]
    · simp (disch := omega) only [jup_ne, jup_same]
    · simp (disch := omega) only [jup_ne, jup_same]
    · simp (disch := omega) only [jup_ne, jup_same]
    · simp (disch := omega) only [jup_ne]
    · simp (disch := omega) only [jup_ne]
    · unfold jmu; simp (disch := omega) only [jup_ne, jup_same, jclamp, if_true]; omega
  rw [if_pos haN2, heq a haN2, jbO_some, jk_some, E_m_token_21]
  obtain ⟨b0, hb0, hb⟩ := htp a haN2
  have hne : ¬ g 0 a = -1 := by rw [hb, jnot_one (by omega)]; exact fun q => q
  rw [if_neg hne, M_isSmall, E_k_step_26, f19, jup_same, if_pos (jlt_t haN2 (by omega))]
  have m1 : jup (jup mf 5 (Int32.ofNat a)) 6 (Int32.ofNat a) = jup (jup (jup mf 5 (Int32.ofNat a)) 6 (Int32.ofNat a)) 5 (Int32.ofNat a) := by
    funext k
    by_cases k5 : k = 5
    · subst k5; rw [jup_ne (by omega), jup_same, jup_same]
    · rw [jup_ne k5]
  have e9 : (jup (jup (jup f 10 (Int32.ofNat a)) 12 0) 13 (Int32.ofNat a)) 9 = Int32.ofNat N := by simp (disch := omega) only [jup_ne]; exact h9
  have e10 : (jup (jup (jup f 10 (Int32.ofNat a)) 12 0) 13 (Int32.ofNat a)) 10 = Int32.ofNat a := by simp (disch := omega) only [jup_ne, jup_same]
  have e4 : (jup (jup mf 5 (Int32.ofNat a)) 6 (Int32.ofNat a)) 4 = Int32.ofNat N := by simp (disch := omega) only [jup_ne]; exact m4
  have hL := S_k_isLetter (D := D) (N := N) (i := a) (f := jup (jup (jup f 10 (Int32.ofNat a)) 12 0) 13 (Int32.ofNat a)) (g := g) (n2 := n2) (p := p) (pa := pa) (s := s) (sa := sa) (sw := sw) (rp := rp) (t := t) (z := z) e9 hN (by omega)
  rw [hL]
  by_cases hl : jlet (g 0 a) = true
  · rw [if_pos (⟨haN2, hl⟩ : a < N ∧ jlet (g 0 a) = true), if_pos hl, jbO_some, jk_some, jbO_some, jk_some, E_k_step_46, if_neg (by decide), E_m_token_31, if_neg (by decide)]
    obtain ⟨kd, vl, hw, hrel⟩ := S_k_readWord (D := D) (N := N) (a := a) (f := jup (jup (jup f 10 (Int32.ofNat a)) 12 0) 13 (Int32.ofNat a)) (g := g) (n2 := n2) (p := p) (pa := pa) (s := s) (sa := sa) (sw := sw) (rp := rp) (t := t) (z := z) e9 hN e10 haN htp hW
    have r2 := M_t32 (D := D') (N := N) (d1 := some (.int (g 0 a))) (cx := cx) (f := jup (jup mf 5 (Int32.ofNat a)) 6 (Int32.ofNat a)) (g := mg) (n := mn) (b := mb) (l := ml) (t := t1) (z := z1) e4 hN (N - a) a (Nat.le_refl _) haN
    rw [← m1, jrn_congr heq] at r2
    have hae : a < jrn jlet (g 0) N (N - a) a := by
      rcases Nat.lt_or_ge a (jrn jlet (g 0) N (N - a) a) with q | q
      · exact q
      · have q2 : jrn jlet (g 0) N (N - a) a = a := Nat.le_antisymm q jrn_ge
        have q3 := jrn_out (P := jlet) (v := g 0) (N := N) (k := N - a) (i := a) (Nat.le_refl _) (by rw [q2]; exact haN2)
        rw [q2, hl] at q3; exact absurd q3 (by decide)
    have heN : jrn jlet (g 0) N (N - a) a ≤ N := jrn_le haN
    have hlet : ∀ j, j < jrn jlet (g 0) N (N - a) a - a → ∃ b, 97 ≤ b ∧ b ≤ 122 ∧ mg 0 (a + j) = Int32.ofNat b := fun j hj => by
      rw [heq _ (by omega)]
      exact jtape_let (N := N) htp (by omega) (jrn_in (N := N) (k := N - a) (i := a) (by omega) (by omega))
    rw [hw, r2, jbO_some, jk_none, E_k_step_49]
    generalize jrn jlet (g 0) N (N - a) a = e at hae heN hlet hrel
    have hcg : ∀ W, jmt (mg 0) a (e - a) W ↔ jmt (g 0) a (e - a) W := fun W => jmt_congr (fun j hj => heq _ (by omega))
    have hwd := M_word (D := D') (a := a) (e := e) (cx := cx) (f := jup (jup (jup mf 5 (Int32.ofNat a)) 6 (Int32.ofNat a)) 5 (Int32.ofNat e)) (g := mg) (n := mn) (b := mb) (l := ml) (t := t1) (z := z1) (by omega) (by simp (disch := omega) only [jup_ne, jup_same]) jup_same (by omega)
    have hsub : Int32.ofNat e - Int32.ofNat a = Int32.ofNat (e - a) := (Int32.ofNat_sub e a (by omega)).symm
    have hjm : jmu N (jup (jup (jup (jup (jup (jup f 10 (Int32.ofNat a)) 12 0) 13 (Int32.ofNat a)) 10 (Int32.ofNat e)) 11 kd) 12 vl) ≤ N - i := by
      unfold jmu; simp (disch := omega) only [jup_ne, jup_same, jclamp]; split <;> omega
    have hclass : (∀ k, k < 10 ∨ 13 < k → (jup (jup (jup (jup (jup (jup f 10 (Int32.ofNat a)) 12 0) 13 (Int32.ofNat a)) 10 (Int32.ofNat e)) 11 kd) 12 vl) k = f k) ∧ (jup (jup (jup (jup (jup (jup f 10 (Int32.ofNat a)) 12 0) 13 (Int32.ofNat a)) 10 (Int32.ofNat e)) 11 kd) 12 vl) 10 = Int32.ofNat e ∧ (jup (jup (jup (jup (jup (jup f 10 (Int32.ofNat a)) 12 0) 13 (Int32.ofNat a)) 10 (Int32.ofNat e)) 11 kd) 12 vl) 11 = kd ∧ (jup (jup (jup (jup (jup (jup f 10 (Int32.ofNat a)) 12 0) 13 (Int32.ofNat a)) 10 (Int32.ofNat e)) 11 kd) 12 vl) 12 = vl ∧ (jup (jup (jup (jup (jup (jup f 10 (Int32.ofNat a)) 12 0) 13 (Int32.ofNat a)) 10 (Int32.ofNat e)) 11 kd) 12 vl) 13 = Int32.ofNat a := by
      refine ⟨fun k hk => ?_, ?_, ?_, ?_, ?_⟩ <;> simp (disch := omega) only [jup_ne, jup_same]
    generalize jup (jup (jup (jup (jup (jup f 10 (Int32.ofNat a)) 12 0) 13 (Int32.ofNat a)) 10 (Int32.ofNat e)) 11 kd) 12 vl = f' at hjm hclass
    obtain ⟨q1, q2, q3, q4, q5⟩ := hclass
    -- what the reference ends in
    have fin : ∀ mf', K_m_word D' cx (jup (jup (jup mf 5 (Int32.ofNat a)) 6 (Int32.ofNat a)) 5 (Int32.ofNat e)) mg mn mb ml t1 z1 = K_m_word D' cx (jup (jup (jup mf 5 (Int32.ofNat a)) 6 (Int32.ofNat a)) 5 (Int32.ofNat e)) mg mn mb ml t1 z1 → (jbO (K_m_word D' cx (jup (jup (jup mf 5 (Int32.ofNat a)) 6 (Int32.ofNat a)) 5 (Int32.ofNat e)) mg mn mb ml t1 z1) (jk D' 144 46 ([some (.ref 79), some (.int (g 0 a))], []) [.ref 79]) = some (.inl none, (jXt cx (jY mf' mg mn mb ml t1), z1))) → (∀ k, k < 4 ∨ 8 < k → mf' k = mf k) → mf' 4 = Int32.ofNat N → mf' 5 = Int32.ofNat e → mf' 6 = Int32.ofNat a → rTk kd vl (mf' 7) (mf' 8) →
        ∃ f'' mf', (some (.inl none, (jX f' g n2 p pa s sa sw rp t, z)) : Option (jO × jH)) = some (.inl none, (jX f'' g n2 p pa s sa sw rp t, z)) ∧ jbO (K_m_word D' cx (jup (jup (jup mf 5 (Int32.ofNat a)) 6 (Int32.ofNat a)) 5 (Int32.ofNat e)) mg mn mb ml t1 z1) (jk D' 144 46 ([some (.ref 79), some (.int (g 0 a))], []) [.ref 79]) = some (.inl none, (jXt cx (jY mf' mg mn mb ml t1), z1)) ∧ rTok N f'' mf' ∧ (∀ k, k < 10 ∨ 13 < k → f'' k = f k) ∧ (∀ k, k < 4 ∨ 8 < k → mf' k = mf k) ∧ jmu N f'' ≤ N - i := by
      intro mf' _ hk hfr w4 w5 w6 hr
      exact ⟨f', mf', rfl, hk, ⟨⟨hN, (q1 9 (by omega)).trans h9, w4, e, heN, q2, w5⟩, ⟨a, haN, q5, w6⟩, by rw [q3, q4]; exact hr⟩, q1, hfr, hjm⟩
    rcases hwd with ⟨x, hx, hmx, hnox, hkw⟩ | ⟨hnox, hkw⟩
    · -- a word
      obtain ⟨w, hw22, hwx⟩ := wmp_in x hx
      have hmw : jmt (g 0) a (e - a) (jwrds.getD w []) := by rw [← hwx]; exact (hcg _).mp hmx
      have hlen : e - a ≤ 6 := by rw [hmw.1]; exact (jwrds_l w hw22).1
      rcases hrel with ⟨h6, -⟩ | ⟨-, ⟨w', hw', hkd, hvl, hmw', -⟩ | ⟨hno, -⟩⟩
      · omega
      · have hxw : x = wmp w' := by
          obtain ⟨a1, a2, a3⟩ := wmp_ok w' hw'
          have hm2 : jmt (mg 0) a (e - a) (rwrds.getD (wmp w') []) := by rw [a2]; exact (hcg _).mpr hmw'
          have heqW : rwrds.getD x [] = jwrds.getD w' [] := by
            rw [hwx]; exact jmt_det hmw hmw' (fun j hj => jwrds_b hw22 j (by omega)) (fun j hj => jwrds_b hw' j (by omega))
          rcases Nat.lt_trichotomy x (wmp w') with q | q | q
          · exact absurd heqW (a3 x q)
          · exact q
          · exact absurd hm2 (hnox _ q)
        refine fin (jup (jup (jup (jup (jup mf 5 (Int32.ofNat a)) 6 (Int32.ofNat a)) 5 (Int32.ofNat e)) 8 (Int32.ofNat x)) 7 0) rfl ?_ ?_ ?_ ?_ ?_ ?_
        · rw [hkw, jbO_some, jk_some, E_m_token_46, if_neg (by rw [jnot_one (by omega)]; exact fun q => q), E_m_token_64, if_neg (by decide)]
        · intro k hk; simp (disch := omega) only [jup_ne]
        · simp (disch := omega) only [jup_ne]; exact m4
        · simp (disch := omega) only [jup_ne, jup_same]
        · simp (disch := omega) only [jup_ne, jup_same]
        · simp (disch := omega) only [jup_ne, jup_same]
          exact Or.inr (Or.inr (Or.inr (Or.inr (Or.inl ⟨hkd, rfl, w', hw', hvl, by rw [hxw]⟩))))
      · exact absurd hmw (hno w hw22)
    · -- no word
      have hno : ∀ w, w < 22 → ¬ jmt (g 0) a (e - a) (jwrds.getD w []) := by
        intro w hw q
        obtain ⟨a1, a2, -⟩ := wmp_ok w hw
        exact hnox (wmp w) a1 (by rw [a2]; exact (hcg _).mpr q)
      have f5 : (jup (jup (jup (jup mf 5 (Int32.ofNat a)) 6 (Int32.ofNat a)) 5 (Int32.ofNat e)) 8 (-1)) 5 - (jup (jup (jup (jup mf 5 (Int32.ofNat a)) 6 (Int32.ofNat a)) 5 (Int32.ofNat e)) 8 (-1)) 6 = Int32.ofNat (e - a) := by
        simp (disch := omega) only [jup_ne, jup_same]; exact hsub
      have f5' : (jup (jup (jup mf 5 (Int32.ofNat a)) 6 (Int32.ofNat a)) 5 (Int32.ofNat e)) 5 - (jup (jup (jup mf 5 (Int32.ofNat a)) 6 (Int32.ofNat a)) 5 (Int32.ofNat e)) 6 = Int32.ofNat (e - a) := by
        simp (disch := omega) only [jup_ne, jup_same]; exact hsub
      rcases hrel with ⟨h6, hkd⟩ | ⟨h6, ⟨w', hw', -, -, hmw', -⟩ | ⟨-, hkd, hvl⟩⟩
      · refine fin (jup (jup (jup (jup (jup mf 5 (Int32.ofNat a)) 6 (Int32.ofNat a)) 5 (Int32.ofNat e)) 8 (-1)) 7 5) rfl ?_ ?_ ?_ ?_ ?_ ?_
        · rw [hkw, jbO_some, jk_some, E_m_token_46, if_pos rfl, f5', if_pos (show (6 : Int32) < Int32.ofNat (e - a) from jlt_t (a := 6) h6 (by omega)), E_m_token_64, if_neg (by decide)]
        · intro k hk; simp (disch := omega) only [jup_ne]
        · simp (disch := omega) only [jup_ne]; exact m4
        · simp (disch := omega) only [jup_ne, jup_same]
        · simp (disch := omega) only [jup_ne, jup_same]
        · simp (disch := omega) only [jup_ne, jup_same]
          exact Or.inr (Or.inl ⟨hkd, rfl⟩)
      · exact absurd hmw' (hno w' hw')
      · have hnm := M_name (D := D') (a := a) (e := e) (cx := cx) (f := jup (jup (jup (jup (jup mf 5 (Int32.ofNat a)) 6 (Int32.ofNat a)) 5 (Int32.ofNat e)) 8 (-1)) 7 1) (g := mg) (n := mn) (b := mb) (l := ml) (t := t1) (z := z1) (by omega) (by simp (disch := omega) only [jup_ne, jup_same]) (by simp (disch := omega) only [jup_ne, jup_same]) (by omega) hlet
        refine fin (jup (jup (jup (jup (jup (jup mf 5 (Int32.ofNat a)) 6 (Int32.ofNat a)) 5 (Int32.ofNat e)) 8 (-1)) 7 1) 8 (Int32.ofNat (jlp (jlv (mg 0) a (e - a))))) rfl ?_ ?_ ?_ ?_ ?_ ?_
        · rw [hkw, jbO_some, jk_some, E_m_token_46, if_pos rfl, f5', if_neg (show ¬ (6 : Int32) < Int32.ofNat (e - a) from jlt_n (a := 6) (by omega) (by omega)), E_m_token_64, if_pos rfl, hnm, jbO_some, jk_none, E_m_token_71]
        · intro k hk; simp (disch := omega) only [jup_ne]
        · simp (disch := omega) only [jup_ne]; exact m4
        · simp (disch := omega) only [jup_ne, jup_same]
        · simp (disch := omega) only [jup_ne, jup_same]
        · simp (disch := omega) only [jup_ne, jup_same]
          refine Or.inr (Or.inr (Or.inr (Or.inl ⟨hkd, rfl, ?_⟩)))
          rw [hvl]
          apply congrArg Int32.ofNat
          apply jlp_congr
          intro j _
          unfold jlv
          by_cases hj : j < e - a
          · rw [if_pos hj, if_pos hj, heq _ (by omega)]
          · rw [if_neg hj, if_neg hj]
  rw [if_neg (fun q : a < N ∧ jlet (g 0 a) = true => hl q.2), if_neg hl, jbO_some, jk_some, jbO_some, jk_some, E_k_step_46, if_pos rfl, E_m_token_31, if_pos rfl, e10, M_isDigit]
  have hD := S_k_isDigit (D := D) (N := N) (i := a) (f := jup (jup (jup f 10 (Int32.ofNat a)) 12 0) 13 (Int32.ofNat a)) (g := g) (n2 := n2) (p := p) (pa := pa) (s := s) (sa := sa) (sw := sw) (rp := rp) (t := t) (z := z) e9 hN (by omega)
  rw [hD]
  by_cases hd : jdgt (g 0 a) = true
  · rw [if_pos (⟨haN2, hd⟩ : a < N ∧ jdgt (g 0 a) = true), if_pos hd, jbO_some, jk_some, jbO_some, jk_some, E_k_step_54, if_neg (by decide), E_m_token_74, if_neg (by decide), E_k_readNumber]
    have c2 := S_k_rn3 (D := D) (N := N) (a := a) (f := jup (jup (jup (jup f 10 (Int32.ofNat a)) 12 0) 13 (Int32.ofNat a)) 11 2) (g := g) (n2 := n2) (p := p) (pa := pa) (s := s) (sa := sa) (sw := sw) (rp := rp) (t := t) (z := z) (by simp (disch := omega) only [jup_ne]; exact h9) hN htp (N - a) 0 (Nat.le_refl _) haN
    have r2 := M_t81 (D := D') (N := N) (a := a) (d1 := some (.int (g 0 a))) (cx := cx) (f := jup (jup (jup (jup mf 5 (Int32.ofNat a)) 6 (Int32.ofNat a)) 7 2) 8 0) (g := mg) (n := mn) (b := mb) (l := ml) (t := t1) (z := z1) (by simp (disch := omega) only [jup_ne]; exact m4) hN htm (N - a) 0 (Nat.le_refl _) haN (fun j hj => absurd hj (Nat.not_lt_zero j))
    rw [show a + 0 = a from rfl, jrn_congr heq] at r2
    rw [show a + 0 = a from rfl] at c2
    have hae : a < jrn jdgt (g 0) N (N - a) a := by
      rcases Nat.lt_or_ge a (jrn jdgt (g 0) N (N - a) a) with q | q
      · exact q
      · have q2 : jrn jdgt (g 0) N (N - a) a = a := Nat.le_antisymm q jrn_ge
        have q3 := jrn_out (P := jdgt) (v := g 0) (N := N) (k := N - a) (i := a) (Nat.le_refl _) (by rw [q2]; exact haN2)
        rw [q2, hd] at q3; exact absurd q3 (by decide)
    have heN : jrn jdgt (g 0) N (N - a) a ≤ N := jrn_le haN
    have hdg : ∀ j, j < jrn jdgt (g 0) N (N - a) a - a → ∃ b, 48 ≤ b ∧ b ≤ 57 ∧ mg 0 (a + j) = Int32.ofNat b := fun j hj => by
      rw [heq _ (by omega)]
      exact jtape_dgt (N := N) htp (by omega) (jrn_in (N := N) (k := N - a) (i := a) (by omega) (by omega))
    generalize jrn jdgt (g 0) N (N - a) a = e at hae heN hdg c2 r2
    have s1 : jup (jup (jup (jup (jup (jup f 10 (Int32.ofNat a)) 12 0) 13 (Int32.ofNat a)) 11 2) 10 (Int32.ofNat a)) 12 (Int32.ofNat (jnc (g 0) a 0)) = jup (jup (jup (jup f 10 (Int32.ofNat a)) 12 0) 13 (Int32.ofNat a)) 11 2 := by
      funext k
      by_cases k12 : k = 12
      · subst k12; simp (disch := omega) only [jup_ne, jup_same]; rfl
      · rw [jup_ne k12]
        by_cases k10 : k = 10
        · subst k10; simp (disch := omega) only [jup_ne, jup_same]
        · rw [jup_ne k10]
    have s2 : jup (jup (jup (jup (jup (jup mf 5 (Int32.ofNat a)) 6 (Int32.ofNat a)) 7 2) 8 0) 5 (Int32.ofNat a)) 8 (Int32.ofNat (jnd (mg 0) a 0)) = jup (jup (jup (jup mf 5 (Int32.ofNat a)) 6 (Int32.ofNat a)) 7 2) 8 0 := by
      funext k
      by_cases k8 : k = 8
      · subst k8; simp (disch := omega) only [jup_ne, jup_same]; rfl
      · rw [jup_ne k8]
        by_cases k5 : k = 5
        · subst k5; simp (disch := omega) only [jup_ne, jup_same]
        · rw [jup_ne k5]
    rw [s1] at c2
    rw [s2] at r2
    have hjd : jnd (mg 0) a (e - a) = jnd (g 0) a (e - a) := by
      have : ∀ m, m ≤ e - a → jnd (mg 0) a m = jnd (g 0) a m := by
        intro m
        induction m with
        | zero => intro _; rfl
        | succ m ih => intro hm; rw [jnd, jnd, ih (by omega), heq _ (by omega)]
      exact this _ (Nat.le_refl _)
    have hle := jnd_le hdg
    rw [c2, r2, jbO_some, jk_none, E_k_step_57]
    refine ⟨_, _, rfl, rfl, ⟨⟨hN, ?_, ?_, e, heN, ?_, ?_⟩, ⟨a, haN, ?_, ?_⟩, ?_⟩, fun k hk => ?_, fun k hk => ?_, ?_⟩
    · simp (disch := omega) only [jup_ne]; exact h9
    · simp (disch := omega) only [jup_ne]; exact m4
    · simp (disch := omega) only [jup_ne, jup_same]
    · simp (disch := omega) only [jup_ne, jup_same]
    · simp (disch := omega) only [jup_ne, jup_same]
    · simp (disch := omega) only [jup_ne, jup_same]
    · simp (disch := omega) only [jup_ne, jup_same]
      rw [hjd] at hle ⊢
      exact Or.inr (Or.inr (Or.inl ⟨rfl, rfl, jnc (g 0) a (e - a), jnd (g 0) a (e - a), rfl, rfl, jnc_le, hle, jnum_rel⟩))
    · simp (disch := omega) only [jup_ne]
    · simp (disch := omega) only [jup_ne]
    · unfold jmu; simp (disch := omega) only [jup_ne, jup_same, jclamp]; split <;> omega
  · rw [if_neg (fun q : a < N ∧ jdgt (g 0 a) = true => hd q.2), if_neg hd, jbO_some, jk_some, jbO_some, jk_some, E_k_step_54, if_pos rfl, E_m_token_74, if_pos rfl]
    obtain ⟨f', c2, c3, c10, c11, c12⟩ := S_k_readSign (D := D) (N := N) (i := a) (f := jup (jup (jup f 10 (Int32.ofNat a)) 12 0) 13 (Int32.ofNat a)) (g := g) (n2 := n2) (p := p) (pa := pa) (s := s) (sa := sa) (sw := sw) (rp := rp) (t := t) (z := z) e9 hN e10 haN2
    obtain ⟨mf', r2, r3, r5, r7, r8⟩ := M_sign (D := D') (N := N) (i := a) (c := g 0 a) (cx := cx) (f := jup (jup mf 5 (Int32.ofNat a)) 6 (Int32.ofNat a)) (g := mg) (n := mn) (b := mb) (l := ml) (t := t1) (z := z1) e4 hN (by simp (disch := omega) only [jup_ne, jup_same]) haN2 (htp a haN2)
    rw [c2, r2, jbO_some, jk_none, E_k_step_60, jbO_some, jk_none, E_m_token_113]
    have h61 : (if a + 1 < N then g 0 (a + 1) else 0) = 61 ↔ (if a + 1 < N then mg 0 (a + 1) else -1) = 61 := by
      by_cases h : a + 1 < N
      · rw [if_pos h, if_pos h, heq _ h]
      · rw [if_neg h, if_neg h]; decide
    have h62 : (if a + 1 < N then g 0 (a + 1) else 0) = 62 ↔ (if a + 1 < N then mg 0 (a + 1) else -1) = 62 := by
      by_cases h : a + 1 < N
      · rw [if_pos h, if_pos h, heq _ h]
      · rw [if_neg h, if_neg h]; decide
    obtain ⟨g1, g2, g3, g4⟩ := jsg_rel (c := g 0 a) (i := a) h61 h62
    obtain ⟨i', hi', hi2⟩ : ∃ i', (a < i' ∧ i' ≤ N) ∧ (jsgc (g 0 a) (if a + 1 < N then g 0 (a + 1) else 0) a).1 = Int32.ofNat i' := by
      rcases g2 with q | ⟨q1, q2⟩
      · exact ⟨a + 1, by omega, q⟩
      · refine ⟨a + 2, ?_, q2⟩
        by_cases h : a + 1 < N
        · omega
        · rw [if_neg h] at q1; exact absurd q1 (by decide)
    refine ⟨f', mf', rfl, rfl, ⟨⟨hN, ?_, ?_, i', hi'.2, c10.trans hi2, r5.trans (g1.symm.trans hi2)⟩, ⟨a, haN, ?_, ?_⟩, ?_⟩, fun k hk => ?_, fun k hk => ?_, ?_⟩
    · rw [c3 9 (by omega)]; exact e9
    · rw [r3 4 (by omega)]; exact e4
    · rw [c3 13 (by omega)]; simp (disch := omega) only [jup_ne, jup_same]
    · rw [r3 6 (by omega)]; simp (disch := omega) only [jup_ne, jup_same]
    · rw [c11, c12, r7, r8]; exact g4
    · rw [c3 k (by omega)]; simp (disch := omega) only [jup_ne]
    · rw [r3 k (by omega)]; simp (disch := omega) only [jup_ne]
    · unfold jmu; rw [c10, hi2, jclamp (by omega)]; split <;> omega
