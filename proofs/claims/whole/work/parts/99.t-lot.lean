-- CALL BY CALL: lot, the reference's side
theorem jg_sg {sg X Y : Int} (hs : sg = 1 ∨ sg = -1) (hY : Y ≠ 0) : (sg * X).tdiv (jg (sg * X) (sg * Y) : Nat) = X.tdiv ((Int.gcd X Y : Nat) * sg) ∧ (sg * Y).tdiv (jg (sg * X) (sg * Y) : Nat) = Y.tdiv ((Int.gcd X Y : Nat) * sg) := by
  have hg : 1 ≤ Int.gcd X Y := Int.gcd_pos_of_ne_zero_right X hY
  have hj : jg (sg * X) (sg * Y) = Int.gcd X Y := by
    have : Int.gcd (sg * X) (sg * Y) = Int.gcd X Y := by
      rcases hs with q | q <;> rw [q]
      · rw [Int.one_mul, Int.one_mul]
      · rw [Int.neg_one_mul, Int.neg_one_mul, Int.gcd_neg, Int.neg_gcd]
    unfold jg
    rw [this]
    split <;> omega
  rw [hj]
  rcases hs with q | q <;> rw [q]
  · simp
  · rw [Int.neg_one_mul, Int.neg_one_mul, Int.neg_tdiv, Int.neg_tdiv, Int.mul_neg_one, Int.tdiv_neg, Int.tdiv_neg]
    exact ⟨rfl, rfl⟩
theorem M_layLot {D : Nat} {m : Nat → Nat} {cx : jCX} {f : Nat → Int32} {g : Nat → Nat → Int32} {n : Nat → Nat → Int64} {b : Nat → Nat → Int32} {l : Nat → Int64} {t : List jE} {z : Nat × Nat × Nat × (Nat → Int32)} (hm : ∀ k, k < 4 → m k < 100 ∧ g 27 k = Int32.ofNat (m k)) :
    ∃ l', K_m_layLot D cx f g n b l t z = some (.inl none, (jXt cx (jY f g n b l' t), z)) ∧ ∀ k, k < 4 → (l' k).toInt = jlot m k := by
  obtain ⟨b0, e0⟩ := hm 0 (by omega)
  obtain ⟨b1, e1⟩ := hm 1 (by omega)
  obtain ⟨b2, e2⟩ := hm 2 (by omega)
  obtain ⟨b3, e3⟩ := hm 3 (by omega)
  have t0 : ((g 27 0).toInt64).toInt = m 0 := by rw [Int32.toInt_toInt64, e0]; exact jtoInt (by omega)
  have t1 : ((g 27 1).toInt64).toInt = m 1 := by rw [Int32.toInt_toInt64, e1]; exact jtoInt (by omega)
  have t2 : ((g 27 2).toInt64).toInt = m 2 := by rw [Int32.toInt_toInt64, e2]; exact jtoInt (by omega)
  have t3 : ((g 27 3).toInt64).toInt = m 3 := by rw [Int32.toInt_toInt64, e3]; exact jtoInt (by omega)
  have lt : ∀ {a b : Nat}, a < 100 → b < 100 → ((Int32.ofNat a < Int32.ofNat b) ↔ a < b) := fun ha hb => by rw [jltn (by omega) (by omega)]
  have c20 : (g 27 2 < g 27 0) ↔ m 2 < m 0 := by rw [e2, e0]; exact lt b2 b0
  have c01 : (g 27 0 < g 27 1) ↔ m 0 < m 1 := by rw [e0, e1]; exact lt b0 b1
  have c31 : (g 27 3 < g 27 1) ↔ m 3 < m 1 := by rw [e3, e1]; exact lt b3 b1
  have c10 : (g 27 1 < g 27 0) ↔ m 1 < m 0 := by rw [e1, e0]; exact lt b1 b0
  have c02 : (g 27 0 < g 27 2) ↔ m 0 < m 2 := by rw [e0, e2]; exact lt b0 b2
  have c23 : (g 27 2 < g 27 3) ↔ m 2 < m 3 := by rw [e2, e3]; exact lt b2 b3
  have c13 : (g 27 1 < g 27 3) ↔ m 1 < m 3 := by rw [e1, e3]; exact lt b1 b3
  have c32 : (g 27 3 < g 27 2) ↔ m 3 < m 2 := by rw [e3, e2]; exact lt b3 b2
  have one : ∀ (k ko kc : Nat) {d2 : Option Value}, k < 4 → ¬ jout (Int32.ofNat k ^^^ 2) 4 → ¬ jout (Int32.ofNat k ^^^ 1) 4 → (Int32.ofNat k ^^^ 2).toNatClampNeg = ko → (Int32.ofNat k ^^^ 1).toNatClampNeg = kc → K_m_sureOf_2 D (Int32.ofNat k) d2 cx f g n b l t z = if ¬ g 27 ko < g 27 k ∧ ¬ g 27 k < g 27 kc then some (.inl (some (.int (Int32.ofNat k))), (jXt cx (jY f g n b l t), z)) else K_m_sureOf_2 D (Int32.ofNat (k + 1)) (some (.int (g 27 k))) cx f g n b l t z := by
    intro k ko kc d2 h1 h2 h4 h6 h7
    rw [L_m_sureOf_2, if_pos (show Int32.ofNat k < 4 from jlt_t (b := 4) h1 (by omega)), if_neg (jout_n h1 (by omega)), if_neg h2, h6, jclamp (by omega)]
    by_cases ha : g 27 ko < g 27 k
    · rw [if_pos ha, if_neg (fun q => q.1 ha), E_m_sureOf_28, jsucc]
    · rw [if_neg ha, if_neg h4, h7]
      by_cases hb : g 27 k < g 27 kc
      · rw [if_pos hb, if_neg (fun q => q.2 hb), E_m_sureOf_28, jsucc]
      · rw [if_neg hb, if_pos ⟨ha, hb⟩]
  have nj : ∀ k : Nat, k < 4 → ¬ jout (Int32.ofNat k) 4 := fun k hk => jout_n hk (by omega)
  have q0 := one 0 2 1 (d2 := none) (by omega) (nj 2 (by omega)) (nj 1 (by omega)) rfl rfl
  have q1 := fun {d2} => one 1 3 0 (d2 := d2) (by omega) (nj 3 (by omega)) (nj 0 (by omega)) rfl rfl
  have q2 := fun {d2} => one 2 0 3 (d2 := d2) (by omega) (nj 0 (by omega)) (nj 3 (by omega)) rfl rfl
  have q3 := fun {d2} => one 3 1 2 (d2 := d2) (by omega) (nj 1 (by omega)) (nj 2 (by omega)) rfl rfl
  have sure : ∀ k, k < 4 → K_m_sureOf D cx f g n b l t z = some (.inl (some (.int (Int32.ofNat k))), (jXt cx (jY f g n b l t), z)) → jlot m = jl4 (if k < 2 then 1 else 0) 1 (m k) 1 → ∃ l', K_m_layLot D cx f g n b l t z = some (.inl none, (jXt cx (jY f g n b l' t), z)) ∧ ∀ k, k < 4 → (l' k).toInt = jlot m k := by
    intro k hk hs hl
    have tk : ((g 27 k).toInt64).toInt = m k := by rw [Int32.toInt_toInt64, (hm k hk).2]; exact jtoInt (by have := (hm k hk).1; omega)
    refine ⟨jup (jup (jup (jup l 0 (if k < 2 then 1 else 0)) 1 1) 2 ((g 27 k).toInt64)) 3 1, ?_, ?_⟩
    · rw [E_m_layLot, hs]
      simp only [jbO_some, jbO_none, jbO_ite, jk_some, jk_none, E_m_layLot_2]
      rw [if_pos (show Int32.ofNat k < 4 from jlt_t (b := 4) hk (by omega))]
      by_cases h2 : k < 2
      · rw [if_pos (show Int32.ofNat k < 2 from jlt_t (b := 2) h2 (by omega)), E_m_layLot_13, if_neg (jout_n hk (by omega)), jclamp (by omega), if_pos h2]
      · rw [if_neg (show ¬ Int32.ofNat k < 2 from jlt_n (b := 2) (by omega) (by omega)), E_m_layLot_13, if_neg (jout_n hk (by omega)), jclamp (by omega), if_neg h2]
    · intro j hj
      rw [hl]
      rcases (show j = 0 ∨ j = 1 ∨ j = 2 ∨ j = 3 by omega) with rfl | rfl | rfl | rfl
      · rw [jup_ne (by omega), jup_ne (by omega), jup_ne (by omega), jup_same]
        by_cases h2 : k < 2
        · rw [if_pos h2, if_pos h2]; show (1 : Int64).toInt = 1; decide
        · rw [if_neg h2, if_neg h2]; show (0 : Int64).toInt = 0; decide
      · rw [jup_ne (by omega), jup_ne (by omega), jup_same]; show (1 : Int64).toInt = 1; decide
      · rw [jup_ne (by omega), jup_same]; exact tk
      · rw [jup_same]; show (1 : Int64).toInt = 1; decide
  by_cases h0 : ¬ g 27 2 < g 27 0 ∧ ¬ g 27 0 < g 27 1
  · refine sure 0 (by omega) (by rw [E_m_sureOf]; exact q0.trans (if_pos h0)) ?_
    unfold jlot; rw [if_pos ⟨fun q => h0.1 (c20.mpr q), fun q => h0.2 (c01.mpr q)⟩]; rfl
  have h0' : ¬ (¬ m 2 < m 0 ∧ ¬ m 0 < m 1) := fun q => h0 ⟨fun w => q.1 (c20.mp w), fun w => q.2 (c01.mp w)⟩
  have r0 := q0.trans (if_neg h0)
  by_cases h1 : ¬ g 27 3 < g 27 1 ∧ ¬ g 27 1 < g 27 0
  · refine sure 1 (by omega) (by rw [E_m_sureOf]; exact r0.trans (q1.trans (if_pos h1))) ?_
    unfold jlot; rw [if_neg h0', if_pos ⟨fun q => h1.1 (c31.mpr q), fun q => h1.2 (c10.mpr q)⟩]; rfl
  have h1' : ¬ (¬ m 3 < m 1 ∧ ¬ m 1 < m 0) := fun q => h1 ⟨fun w => q.1 (c31.mp w), fun w => q.2 (c10.mp w)⟩
  have r1 := r0.trans (q1.trans (if_neg h1))
  by_cases h2 : ¬ g 27 0 < g 27 2 ∧ ¬ g 27 2 < g 27 3
  · refine sure 2 (by omega) (by rw [E_m_sureOf]; exact r1.trans (q2.trans (if_pos h2))) ?_
    unfold jlot; rw [if_neg h0', if_neg h1', if_pos ⟨fun q => h2.1 (c02.mpr q), fun q => h2.2 (c23.mpr q)⟩]; rfl
  have h2' : ¬ (¬ m 0 < m 2 ∧ ¬ m 2 < m 3) := fun q => h2 ⟨fun w => q.1 (c02.mp w), fun w => q.2 (c23.mp w)⟩
  have r2 := r1.trans (q2.trans (if_neg h2))
  by_cases h3 : ¬ g 27 1 < g 27 3 ∧ ¬ g 27 3 < g 27 2
  · refine sure 3 (by omega) (by rw [E_m_sureOf]; exact r2.trans (q3.trans (if_pos h3))) ?_
    unfold jlot; rw [if_neg h0', if_neg h1', if_neg h2', if_pos ⟨fun q => h3.1 (c13.mpr q), fun q => h3.2 (c32.mpr q)⟩]; rfl
  have h3' : ¬ (¬ m 1 < m 3 ∧ ¬ m 3 < m 2) := fun q => h3 ⟨fun w => q.1 (c13.mp w), fun w => q.2 (c32.mp w)⟩
  have r3 := r2.trans (q3.trans (if_neg h3))
  have hs4 : K_m_sureOf D cx f g n b l t z = some (.inl (some (.int 4)), (jXt cx (jY f g n b l t), z)) := by
    rw [E_m_sureOf]
    refine r3.trans ?_
    rw [L_m_sureOf_2, if_neg (by decide)]
  have hof : (((((g 27 0).toInt64) - ((g 27 1).toInt64)) - ((g 27 2).toInt64)) + ((g 27 3).toInt64)).toInt = jof m := l_add (l_sub (l_sub t0 t1 (by omega)) t2 (by omega)) t3 (by omega)
  have hofb : -1000 ≤ jof m ∧ jof m ≤ 1000 := by unfold jof; omega
  have hof0 : jof m ≠ 0 := by unfold jof; omega
  have hd : (((g 27 3).toInt64) - ((g 27 2).toInt64)).toInt = (m 3 : Int) - m 2 := l_sub t3 t2 (by omega)
  have p1 := jprod_bd b0 b3
  have p2 := jprod_bd b1 b2
  have hdet : ((((g 27 0).toInt64) * ((g 27 3).toInt64)) - (((g 27 1).toInt64) * ((g 27 2).toInt64))).toInt = (m 0 : Int) * m 3 - (m 1 : Int) * m 2 := l_sub (l_mul t0 t3 (by omega)) (l_mul t1 t2 (by omega)) (by omega)
  generalize hA : (((((g 27 0).toInt64) - ((g 27 1).toInt64)) - ((g 27 2).toInt64)) + ((g 27 3).toInt64)) = y2 at hof
  generalize hB : (((g 27 3).toInt64) - ((g 27 2).toInt64)) = y4 at hd
  generalize hC : ((((g 27 0).toInt64) * ((g 27 3).toInt64)) - (((g 27 1).toInt64) * ((g 27 2).toInt64))) = y6 at hdet
  have h0i : (0 : Int64).toInt = 0 := by decide
  have last : ∀ (sg : Int64), sg.toInt = jsg m → ∃ l', K_m_layLot_95 D (some (.int 4)) y2 y4 y6 none none none none none none none none none sg cx f g n b l t z = some (.inl none, (jXt cx (jY f g n b l' t), z)) ∧ ∀ k, k < 4 → (l' k).toInt = jlot m k := by
    intro sg hsg
    have hsg2 : jsg m = 1 ∨ jsg m = -1 := by unfold jsg; split <;> simp
    have g1 : 1 ≤ Int.gcd ((m 3 : Int) - m 2) (jof m) ∧ Int.gcd ((m 3 : Int) - m 2) (jof m) ≤ 1000000 := ⟨Int.gcd_pos_of_ne_zero_right _ hof0, jg_bd (by omega) (by omega)⟩
    have g2 : 1 ≤ Int.gcd ((m 0 : Int) * m 3 - (m 1 : Int) * m 2) (jof m) ∧ Int.gcd ((m 0 : Int) * m 3 - (m 1 : Int) * m 2) (jof m) ≤ 1000000 := ⟨Int.gcd_pos_of_ne_zero_right _ hof0, jg_bd (by omega) (by omega)⟩
    obtain ⟨s1, s2⟩ := jg_sg (X := (m 3 : Int) - m 2) (Y := jof m) hsg2 hof0
    obtain ⟨s3, s4⟩ := jg_sg (X := (m 0 : Int) * m 3 - (m 1 : Int) * m 2) (Y := jof m) hsg2 hof0
    generalize hG1 : Int.gcd ((m 3 : Int) - m 2) (jof m) = G1 at *
    generalize hG2 : Int.gcd ((m 0 : Int) * m 3 - (m 1 : Int) * m 2) (jof m) = G2 at *
    have hmul : ∀ {G : Nat}, 1 ≤ G → G ≤ 1000000 → (Int64.ofNat G * sg).toInt = (G : Int) * jsg m ∧ ¬ Int64.ofNat G * sg = 0 := by
      intro G h1 h2
      have e : (Int64.ofNat G * sg).toInt = (G : Int) * jsg m := l_mul (Int64.toInt_ofNat_of_lt (by omega)) hsg (by rcases hsg2 with q | q <;> rw [q] <;> omega)
      refine ⟨e, fun q => ?_⟩
      rw [q, h0i] at e
      rcases hsg2 with w | w <;> rw [w] at e <;> omega
    obtain ⟨m1, z1⟩ := hmul g1.1 g1.2
    obtain ⟨m2, z2⟩ := hmul g2.1 g2.2
    refine ⟨jup (jup (jup (jup l 0 (y4 / (Int64.ofNat G1 * sg))) 1 (y2 / (Int64.ofNat G1 * sg))) 2 (y6 / (Int64.ofNat G2 * sg))) 3 (y2 / (Int64.ofNat G2 * sg)), ?_, ?_⟩
    · rw [E_m_layLot_95, M_common hd hof (by omega) (by omega), hG1]
      simp only [jbO_some, jbO_none, jbO_ite, jk_some, jk_none, E_m_layLot_99, z1, if_false]
      rw [M_common hdet hof (by omega) (by omega), hG2]
      simp only [jbO_some, jbO_none, jbO_ite, jk_some, jk_none, E_m_layLot_115, z2, if_false]
    · intro j hj
      have hl : jlot m = jl4 (((m 3 : Int) - m 2).tdiv ((G1 : Int) * jsg m)) ((jof m).tdiv ((G1 : Int) * jsg m)) (((m 0 : Int) * m 3 - (m 1 : Int) * m 2).tdiv ((G2 : Int) * jsg m)) ((jof m).tdiv ((G2 : Int) * jsg m)) := by
        unfold jlot; rw [if_neg h0', if_neg h1', if_neg h2', if_neg h3', s1, s2, s3, s4]
      rw [hl]
      rcases (show j = 0 ∨ j = 1 ∨ j = 2 ∨ j = 3 by omega) with rfl | rfl | rfl | rfl
      · rw [jup_ne (by omega), jup_ne (by omega), jup_ne (by omega), jup_same]; exact l_div hd m1 (by omega)
      · rw [jup_ne (by omega), jup_ne (by omega), jup_same]; exact l_div hof m1 (by omega)
      · rw [jup_ne (by omega), jup_same]; exact l_div hdet m2 (by omega)
      · rw [jup_same]; exact l_div hof m2 (by omega)
  rw [E_m_layLot, hs4]
  simp only [jbO_some, jbO_none, jbO_ite, jk_some, jk_none, E_m_layLot_2, hA, hB, hC, lg_cmp_lt]
  rw [if_neg (by decide)]
  by_cases hneg : y2 < 0
  · rw [if_pos hneg]
    refine last (-1) ?_
    have := Int64.lt_iff_toInt_lt.mp hneg
    rw [hof, h0i] at this
    unfold jsg; rw [if_pos this]; decide
  · rw [if_neg hneg]
    refine last 1 ?_
    have : ¬ jof m < 0 := fun q => hneg (Int64.lt_iff_toInt_lt.mpr (by rw [hof, h0i]; exact q))
    unfold jsg; rw [if_neg this]; decide
theorem lot_60 {D : Nat} {d1 d2 d9 : Option Value} {x3 x4 x5 x6 x7 x8 u0 : Int32} {f : Nat → Int32} {g : Nat → Nat → Int32} {n2 : Nat → Nat → Int64} {p : Nat → Nat → Int32} {pa : Nat → Nat → Nat → Int32} {s : Nat → Nat → Int32} {sa : Nat → Nat → Nat → Int32} {sw : Bool} {rp : Value} {t : List jE} {z : Nat × Nat × Nat × (Nat → Int32)} : jev D 125 60 ([some (.ref 0), d1, d2, some (.int x3), some (.int x4), some (.int x5), some (.int x6), some (.int x7), some (.int x8), d9], []) [.int u0] ((jX f g n2 p pa s sa sw rp t, z)) = K_c_lot_116 D d1 d2 (some (.int x3)) (some (.int x4)) x5 (some (.int x6)) (some (.int x7)) (some (.int x8)) (some (.int u0)) (if ((u0 >>> (x4 &&& 31)) &&& 1) = 0 then x7 else 0) 3 f (jup g 11 (jup (jup (jup (g 11) 0 (if ((x8 >>> (x3 &&& 31)) &&& 1) = 0 then x6 else 0)) 1 (if ((x8 >>> (x4 &&& 31)) &&& 1) = 0 then x7 else 0)) 2 (if ((u0 >>> (x3 &&& 31)) &&& 1) = 0 then x6 else 0))) n2 p pa s sa sw rp t z := by
  have j0 : ¬ jout (0 : Int32) 4 := jout_n (k := 0) (by omega) (by omega)
  have j1 : ¬ jout (1 : Int32) 4 := jout_n (k := 1) (by omega) (by omega)
  have j2 : ¬ jout (2 : Int32) 4 := jout_n (k := 2) (by omega) (by omega)
  rw [E_c_lot_60]
  by_cases h1 : ((x8 >>> (x3 &&& 31)) &&& 1) = 0 <;> by_cases h2 : ((x8 >>> (x4 &&& 31)) &&& 1) = 0 <;> by_cases h3 : ((u0 >>> (x3 &&& 31)) &&& 1) = 0 <;> by_cases h4 : ((u0 >>> (x4 &&& 31)) &&& 1) = 0 <;>
    simp only [h1, h2, h3, h4, if_true, if_false, E_c_lot_74, E_c_lot_88, E_c_lot_102, j0, j1, j2, jup_same, jup_jup] <;> rfl
theorem A_lot {D : Nat} {a a2 x y w : Int32} {f : Nat → Int32} {g : Nat → Nat → Int32} {n2 : Nat → Nat → Int64} {p : Nat → Nat → Int32} {pa : Nat → Nat → Nat → Int32} {s : Nat → Nat → Int32} {sa : Nat → Nat → Nat → Int32} {sw : Bool} {rp : Value} {mf : Nat → Int32} {mg : Nat → Nat → Int32} {mn : Nat → Nat → Int64} {mb : Nat → Nat → Int32} {ml : Nat → Int64} (h : RR f g p pa s sa sw mf mg mb) : ∀ (t : List jE) (z : Nat × Nat × Nat × (Nat → Int32)), ∃ r : Int32, ∃ f' g' n2' p' pa' s' sa' sw' rp', K_c_lot D a a2 x y w f g n2 p pa s sa sw rp t z = some (.inl (some (.int r)), (jX f' g' n2' p' pa' s' sa' sw' rp' t, z)) ∧ ∀ (cx : jCX) (t1 : List jE) (z1 : Nat × Nat × Nat × (Nat → Int32)), ∃ mf' mg' mn' mb' ml', K_m_lot D a a2 x y w cx mf mg mn mb ml t1 z1 = some (.inl (some (.int r)), (jXt cx (jY mf' mg' mn' mb' ml' t1), z1)) ∧ RR f' g' p' pa' s' sa' sw' mf' mg' mb' := by
  intro t z
  obtain ⟨C, Sc, T, hP, hC, hS6, hT, hT2, hjn, hmn, hfr, hTw, hAt, hW, hw2, hm15⟩ := RR_ex (n2 := n2) (rp := rp) (mn := mn) (ml := ml) h
  obtain ⟨C', Sc', hP', hq, -⟩ := id h
  have hr := RR_congr h (by intro k hk; simp (disch := omega) only [jup_ne]) (by intro k hk; simp (disch := omega) only [jup_ne]) rfl rfl (by constructor <;> simp (disch := omega) only [jup_ne]) (by constructor <;> simp (disch := omega) only [jup_ne]) (by intro k hk; simp (disch := omega) only [jup_ne]) (jq1.rf) rfl (f' := f) (g' := g) (s' := s) (sa' := sa) (p' := p) (pa' := pa) (sw' := sw) (mf' := jup mf 0 0) (mg' := mg) (mb' := mb)
  have hS := hP.1.2.2.2.2.1
  have hCC := hP.1.1
  have h10' : ¬ (1 : Int32) = 0 := by decide
  have hsc := fun {x} => S_p_hasScare (D := D) (w := sw) (x := x) (f := f) (g := g) (n2 := n2) (p := p) (pa := pa) (s := s) (sa := sa) (sw := sw) (rp := rp) (t := t) (z := z) hS hS6
  have hce := fun {x} => S_p_hasCell (D := D) (w := sw) (x := x) (f := f) (g := g) (n2 := n2) (p := p) (pa := pa) (s := s) (sa := sa) (sw := sw) (rp := rp) (t := t) (z := z) hCC hC
  have hms := fun {x cx t z} => M_isScare (D := D) (x := x) (cx := cx) (f := jup mf 0 0) (g := mg) (n := mn) (b := mb) (l := ml) (t := t) (z := z) hP
  have hmc := fun {x cx t z} => M_isCell (D := D) (x := x) (cx := cx) (f := jup mf 0 0) (g := mg) (n := mn) (b := mb) (l := ml) (t := t) (z := z) hP
  have ex : (K_c_lot D a a2 x y w f g n2 p pa s sa sw rp t z = some (.inl (some (.int (-1))), (jX f g n2 p pa s sa sw rp t, z))) → (∀ cx t z, K_m_lot D a a2 x y w cx mf mg mn mb ml t z = some (.inl (some (.int (-1))), (jXt cx (jY (jup mf 0 0) mg mn mb ml t), z))) → ∃ r f' g' n2' p' pa' s' sa' sw' rp', K_c_lot D a a2 x y w f g n2 p pa s sa sw rp t z = some (.inl (some (.int r)), (jX f' g' n2' p' pa' s' sa' sw' rp' t, z)) ∧ ∀ cx t1 z1, ∃ mf' mg' mn' mb' ml', K_m_lot D a a2 x y w cx mf mg mn mb ml t1 z1 = some (.inl (some (.int r)), (jXt cx (jY mf' mg' mn' mb' ml' t1), z1)) ∧ RR f' g' p' pa' s' sa' sw' mf' mg' mb' := fun h1 h2 => ⟨-1, f, g, n2, p, pa, s, sa, sw, rp, h1, fun cx t z => ⟨jup mf 0 0, mg, mn, mb, ml, h2 cx t z, hr⟩⟩
  rcases jout_dec a Sc (by omega) with ho | ⟨i, hi, rfl⟩
  · exact ex (by simp only [E_c_lot, hsc, if_pos ho, jbO_some, jbO_none, jbO_ite, jk_some, jk_none, E_c_lot_4, if_true]) (fun cx t z => by simp only [E_m_lot, hms, if_pos ho, jbO_some, jbO_none, jbO_ite, jk_some, jk_none, E_m_lot_6, if_true])
  have hn1 : ¬ jout (Int32.ofNat i) Sc := jout_n hi (by omega)
  rcases jout_dec a2 Sc (by omega) with ho | ⟨j, hj, rfl⟩
  · exact ex (by simp only [E_c_lot, hsc, if_neg hn1, if_pos ho, jbO_some, jbO_none, jbO_ite, jk_some, jk_none, E_c_lot_4, E_c_lot_9, h10', if_true, if_false]) (fun cx t z => by simp only [E_m_lot, hms, if_neg hn1, if_pos ho, jbO_some, jbO_none, jbO_ite, jk_some, jk_none, E_m_lot_6, E_m_lot_10, h10', if_true, if_false])
  have hn2 : ¬ jout (Int32.ofNat j) Sc := jout_n hj (by omega)
  -- the class's checks come in another order
  have hcbad : (jout x C ∨ jout y C ∨ Int32.ofNat i = Int32.ofNat j ∨ x = y ∨ w < 0 ∨ 3 < w) → K_c_lot D (Int32.ofNat i) (Int32.ofNat j) x y w f g n2 p pa s sa sw rp t z = some (.inl (some (.int (-1))), (jX f g n2 p pa s sa sw rp t, z)) := by
    intro hb
    simp only [E_c_lot, hsc, if_neg hn1, if_neg hn2, jbO_some, jbO_none, jbO_ite, jk_some, jk_none, E_c_lot_4, E_c_lot_9, h10', if_false, hce]
    by_cases q1 : jout x C
    · simp only [if_pos q1, jbO_some, jbO_none, jbO_ite, jk_some, jk_none, E_c_lot_14, if_true]
    simp only [if_neg q1, jbO_some, jbO_none, jbO_ite, jk_some, jk_none, E_c_lot_14, h10', if_false, hce]
    by_cases q2 : jout y C
    · simp only [if_pos q2, jbO_some, jbO_none, jbO_ite, jk_some, jk_none, E_c_lot_19, if_true]
    simp only [if_neg q2, jbO_some, jbO_none, jbO_ite, jk_some, jk_none, E_c_lot_19, h10', if_false]
    by_cases q3 : Int32.ofNat i = Int32.ofNat j
    · simp only [if_pos q3]
    by_cases q4 : x = y
    · simp only [if_neg q3, if_pos q4]
    by_cases q5 : w < 0
    · simp only [if_neg q3, if_neg q4, if_pos q5]
    by_cases q6 : 3 < w
    · simp only [if_neg q3, if_neg q4, if_neg q5, if_pos q6]
    · exact absurd hb (by simp [q1, q2, q3, q4, q5, q6])
  by_cases q3 : Int32.ofNat i = Int32.ofNat j
  · exact ex (hcbad (Or.inr (Or.inr (Or.inl q3)))) (fun cx t z => by simp only [E_m_lot, hms, if_neg hn1, if_neg hn2, if_pos q3, jbO_some, jbO_none, jbO_ite, jk_some, jk_none, E_m_lot_6, E_m_lot_10, h10', if_false])
  rcases jout_dec x C (by omega) with ho | ⟨c, hc, rfl⟩
  · exact ex (hcbad (Or.inl ho)) (fun cx t z => by simp only [E_m_lot, hms, hmc, if_neg hn1, if_neg hn2, if_neg q3, if_pos ho, jbO_some, jbO_none, jbO_ite, jk_some, jk_none, E_m_lot_6, E_m_lot_10, E_m_lot_17, h10', if_true, if_false])
  have hn3 : ¬ jout (Int32.ofNat c) C := jout_n hc (by omega)
  rcases jout_dec y C (by omega) with ho | ⟨e, he, rfl⟩
  · exact ex (hcbad (Or.inr (Or.inl ho))) (fun cx t z => by simp only [E_m_lot, hms, hmc, if_neg hn1, if_neg hn2, if_neg q3, if_neg hn3, if_pos ho, jbO_some, jbO_none, jbO_ite, jk_some, jk_none, E_m_lot_6, E_m_lot_10, E_m_lot_17, E_m_lot_21, h10', if_true, if_false])
  have hn4 : ¬ jout (Int32.ofNat e) C := jout_n he (by omega)
  by_cases q4 : Int32.ofNat c = Int32.ofNat e
  · exact ex (hcbad (Or.inr (Or.inr (Or.inr (Or.inl q4))))) (fun cx t z => by simp only [E_m_lot, hms, hmc, if_neg hn1, if_neg hn2, if_neg q3, if_neg hn3, if_neg hn4, if_pos q4, jbO_some, jbO_none, jbO_ite, jk_some, jk_none, E_m_lot_6, E_m_lot_10, E_m_lot_17, E_m_lot_21, h10', if_false])
  by_cases q5 : w < 0
  · exact ex (hcbad (Or.inr (Or.inr (Or.inr (Or.inr (Or.inl q5)))))) (fun cx t z => by simp only [E_m_lot, hms, hmc, if_neg hn1, if_neg hn2, if_neg q3, if_neg hn3, if_neg hn4, if_neg q4, if_pos q5, jbO_some, jbO_none, jbO_ite, jk_some, jk_none, E_m_lot_6, E_m_lot_10, E_m_lot_17, E_m_lot_21, h10', if_false])
  by_cases q6 : 3 < w
  · exact ex (hcbad (Or.inr (Or.inr (Or.inr (Or.inr (Or.inr q6)))))) (fun cx t z => by simp only [E_m_lot, hms, hmc, if_neg hn1, if_neg hn2, if_neg q3, if_neg hn3, if_neg hn4, if_neg q4, if_neg q5, if_pos q6, jbO_some, jbO_none, jbO_ite, jk_some, jk_none, E_m_lot_6, E_m_lot_10, E_m_lot_17, E_m_lot_21, h10', if_false])
  generalize hwv : cwnd f (g 2) (p (jq sw)) (pa (jq sw)) (s 0 0) = wv at hw2
  have hq2 : ∃ r : Nat, r < 100 ∧ p (jq sw) 7 = Int32.ofNat r := hq
  let sees : Nat → Nat → Bool := fun i c => csees f (p (jq sw)) (pa (jq sw)) (s 0) (sa 0) wv i c
  let meal : Nat → Int32 := fun c => cmeal (p (jq sw)) (pa (jq sw)) (s 0) (sa 0) wv c
  have hmealr : ∀ c, c < C → ∃ k : Nat, k < 100 ∧ meal c = Int32.ofNat k := by
    intro c hc
    obtain ⟨r, hr1, hr2⟩ := hfr.2.2.2.1.1 c hc
    obtain ⟨k, hk1, hk2⟩ := cmeal_rng (q := p (jq sw)) (qa := pa (jq sw)) (a := s 0) (aa := sa 0) (wv := wv) hq2 hr1 hr2
    exact ⟨k, by omega, hk2⟩
  let V : Nat → Int32 := fun k => if sees (if k < 2 then i else j) (if k % 2 = 0 then c else e) then 0 else meal (if k % 2 = 0 then c else e)
  let m : Nat → Nat := fun k => (V k).toNatClampNeg
  have hV : ∀ k, m k < 100 ∧ V k = Int32.ofNat (m k) := by
    intro k
    have hcell : (if k % 2 = 0 then c else e) < C := by split <;> assumption
    obtain ⟨v, hv, hve⟩ := hmealr _ hcell
    have : ∃ u : Nat, u < 100 ∧ V k = Int32.ofNat u := by
      show ∃ u : Nat, u < 100 ∧ (if sees (if k < 2 then i else j) (if k % 2 = 0 then c else e) then 0 else meal (if k % 2 = 0 then c else e)) = Int32.ofNat u
      by_cases hse : sees (if k < 2 then i else j) (if k % 2 = 0 then c else e) = true
      · rw [if_pos hse]; exact ⟨0, by omega, rfl⟩
      · rw [if_neg hse]; exact ⟨v, hv, hve⟩
    obtain ⟨u, hu, hue⟩ := this
    have : m k = u := by show (V k).toNatClampNeg = u; rw [hue, jclamp (by omega)]
    rw [this]; exact ⟨hu, hue⟩
  have hV0 : V 0 = if sees i c then 0 else meal c := rfl
  have hV1 : V 1 = if sees i e then 0 else meal e := rfl
  have hV2 : V 2 = if sees j c then 0 else meal c := rfl
  have hV3 : V 3 = if sees j e then 0 else meal e := rfl
  -- the class
  obtain ⟨nm1, st1, hc1⟩ := S_h_mealIn (D := D) (j := 0) (c := c) (f := f) (g := g) (n2 := n2) (p := p) (pa := pa) (s := s) (sa := sa) (sw := sw) (rp := rp) (t := t) (z := z) (by omega) (by omega) hP.1
  generalize hna : jup (jup n2 0 nm1) 1 st1 = na at hc1
  obtain ⟨nm2, st2, hc2⟩ := S_h_mealIn (D := D) (j := 0) (c := e) (f := f) (g := g) (n2 := na) (p := p) (pa := pa) (s := s) (sa := sa) (sw := sw) (rp := rp) (t := t) (z := z) (by omega) (by omega) hP.1
  generalize hnb : jup (jup na 0 nm2) 1 st2 = nb at hc2
  obtain ⟨nm3, st3, hc3⟩ := S_h_seenBy0 (D := D) (j := 0) (i := i) (f := f) (g := g) (n2 := nb) (p := p) (pa := pa) (s := s) (sa := sa) (sw := sw) (rp := rp) (t := t) (z := z) (by omega) hi hP.1 hm15
  generalize hnc : jup (jup nb 0 nm3) 1 st3 = nc at hc3
  obtain ⟨nm4, st4, hc4⟩ := S_h_seenBy0 (D := D) (j := 0) (i := j) (f := f) (g := g) (n2 := nc) (p := p) (pa := pa) (s := s) (sa := sa) (sw := sw) (rp := rp) (t := t) (z := z) (by omega) hj hP.1 hm15
  generalize hnd : jup (jup nc 0 nm4) 1 st4 = nd at hc4
  rw [hwv] at hc1 hc2 hc3 hc4
  have hbit : ∀ (i c : Nat), c < C → ∀ (A B : Int32), (if ((jset (csees f (p (jq sw)) (pa (jq sw)) (s 0) (sa 0) wv i) C >>> (Int32.ofNat c &&& 31)) &&& 1) = 0 then A else B) = if sees i c then B else A := by
    intro i c hc A B
    have h1 : (((jset (csees f (p (jq sw)) (pa (jq sw)) (s 0) (sa 0) wv i) C >>> (Int32.ofNat c &&& 31)) &&& 1) = 0) = (sees i c = false) := by
      rw [jbit0 (by omega), bt_jset (by omega) (by omega)]
      simp [hc, sees]
    by_cases hs : sees i c = true
    · rw [if_pos hs, if_neg (fun q => by rw [h1, hs] at q; exact absurd q (by decide))]
    · rw [if_neg hs, if_pos (by rw [h1]; simpa using hs)]
  have j3 : ¬ jout (3 : Int32) 4 := jout_n (k := 3) (by omega) (by omega)
  generalize hg11 : jup g 11 (jup (jup (jup (jup (g 11) 0 (V 0)) 1 (V 1)) 2 (V 2)) 3 (V 3)) = gg
  obtain ⟨u0, u1, u2, u3, hset, a0, a1, a2', a3⟩ := S_o_settle (D := D) (m := m) (f := f) (g := gg) (n2 := nd) (p := p) (pa := pa) (s := s) (sa := sa) (sw := sw) (rp := rp) (t := t) (z := z) (by
    intro k hk
    refine ⟨(hV k).1, ?_⟩
    rw [← (hV k).2, ← hg11, jup_same]
    rcases (show k = 0 ∨ k = 1 ∨ k = 2 ∨ k = 3 by omega) with rfl | rfl | rfl | rfl <;> simp (disch := omega) only [jup_same, jup_ne])
  have hgo : K_c_lot D (Int32.ofNat i) (Int32.ofNat j) (Int32.ofNat c) (Int32.ofNat e) w f g n2 p pa s sa sw rp t z = some (.inl (some (.int (if w = 0 then u0 else if w = 1 then u1 else if w = 2 then u2 else u3))), (jX (jup (jup (jup (jup f 26 u0) 27 u1) 28 u2) 29 u3) gg nd p pa s sa sw rp t, z)) := by
    simp only [E_c_lot, hsc, hce, if_neg hn1, if_neg hn2, if_neg hn3, if_neg hn4, if_neg q3, if_neg q4, if_neg q5, if_neg q6, jbO_some, jbO_none, jbO_ite, jk_some, jk_none, E_c_lot_4, E_c_lot_9, E_c_lot_14, E_c_lot_19, h10', if_false, hc1, E_c_lot_39, hc2, E_c_lot_46, hc3, E_c_lot_53, hc4, lot_60, hbit i c hc, hbit i e he, hbit j c hc, hbit j e he]
    rw [E_c_lot_116, if_neg j3]
    have hgg : jup (jup g 11 (jup (jup (jup (g 11) 0 (if sees i c then 0 else cmeal (p (jq sw)) (pa (jq sw)) (s 0) (sa 0) wv c)) 1 (if sees i e then 0 else cmeal (p (jq sw)) (pa (jq sw)) (s 0) (sa 0) wv e)) 2 (if sees j c then 0 else cmeal (p (jq sw)) (pa (jq sw)) (s 0) (sa 0) wv c))) 11 (jup ((jup g 11 (jup (jup (jup (g 11) 0 (if sees i c then 0 else cmeal (p (jq sw)) (pa (jq sw)) (s 0) (sa 0) wv c)) 1 (if sees i e then 0 else cmeal (p (jq sw)) (pa (jq sw)) (s 0) (sa 0) wv e)) 2 (if sees j c then 0 else cmeal (p (jq sw)) (pa (jq sw)) (s 0) (sa 0) wv c))) 11) ((3 : Int32).toNatClampNeg) (if sees j e then 0 else cmeal (p (jq sw)) (pa (jq sw)) (s 0) (sa 0) wv e)) = gg := by
      rw [jup_same, jup_jup, ← hg11, hV0, hV1, hV2, hV3]; rfl
    rw [hgg, hset]
    simp only [jbO_some, jbO_none, jbO_ite, jk_some, jk_none, E_c_lot_120, E_o_answer, jup_same]
    have o0 : jup (jup (jup (jup f 26 u0) 27 u1) 28 u2) 29 u3 26 = u0 := by simp (disch := omega) only [jup_ne, jup_same]
    have o1 : jup (jup (jup (jup f 26 u0) 27 u1) 28 u2) 29 u3 27 = u1 := by simp (disch := omega) only [jup_ne, jup_same]
    have o2 : jup (jup (jup (jup f 26 u0) 27 u1) 28 u2) 29 u3 28 = u2 := by simp (disch := omega) only [jup_ne, jup_same]
    rw [o0, o1, o2]
    by_cases w0 : w = 0
    · simp only [if_pos w0, jbO_some, jbO_none, jbO_ite, jk_some, jk_none, E_c_lot_124]
    by_cases w1 : w = 1
    · simp only [if_neg w0, if_pos w1, jbO_some, jbO_none, jbO_ite, jk_some, jk_none, E_c_lot_124]
    by_cases w2 : w = 2
    · simp only [if_neg w0, if_neg w1, if_pos w2, jbO_some, jbO_none, jbO_ite, jk_some, jk_none, E_c_lot_124]
    · simp only [if_neg w0, if_neg w1, if_neg w2, jbO_some, jbO_none, jbO_ite, jk_some, jk_none, E_c_lot_124]
  refine ⟨_, _, _, _, _, _, _, _, _, _, hgo, fun cx t1 z1 => ?_⟩
  -- the reference
  have key : ∀ k, k ≤ 4 → ∃ y n' v d7 d8, K_m_lot_34 D (Int32.ofNat i) (Int32.ofNat j) (Int32.ofNat c) (Int32.ofNat e) w 0 none none cx (jup mf 0 0) mg mn mb ml t1 z1 = K_m_lot_34 D (Int32.ofNat i) (Int32.ofNat j) (Int32.ofNat c) (Int32.ofNat e) w (Int32.ofNat k) d7 d8 cx (jup (jup mf 0 0) 15 y) (jup mg 27 v) n' mb ml t1 z1 ∧ ∀ q, q < k → v q = V q := by
    intro k
    induction k with
    | zero => intro _; exact ⟨(jup mf 0 0) 15, mn, mg 27, none, none, by rw [jup_self, jup_self]; rfl, fun q hq => absurd hq (Nat.not_lt_zero q)⟩
    | succ k ih =>
      intro hk
      obtain ⟨y, n', v, d7, d8, hh, hv⟩ := ih (by omega)
      have hcell : (if k % 2 = 0 then c else e) < C := by split <;> assumption
      have hscr : (if k < 2 then i else j) < Sc := by split <;> assumption
      have hAk := rAt_f (y := y) (rAt_g hAt (fun x hx => (jup_ne (by omega) : jup mg 27 v x = mg x)))
      obtain ⟨y1, n1, hsn⟩ := M_isSeen (D := D) (c := if k % 2 = 0 then c else e) (i := if k < 2 then i else j) (tf := f) (cx := cx) (n := n') (b := mb) (l := ml) (t := t1) (z := z1) hAk (rTw_f (y := y) hTw) hcell hscr
      have hAk1 := rAt_f (y := y1) (rAt_g hAt (fun x hx => (jup_ne (by omega) : jup mg 27 v x = mg x)))
      obtain ⟨y2, n2', hea⟩ := M_eats (D := D) (c := if k % 2 = 0 then c else e) (cx := cx) (n := n1) (b := mb) (l := ml) (t := t1) (z := z1) hAk1 hcell
      rw [mwnd_f, mwnd_g' (fun x hx => jup_ne (by omega)), jup_jup] at hsn hea
      dsimp only at hsn hea
      rw [hw2] at hsn hea
      have hsn1 : K_m_isSeen D 0 (Int32.ofNat (if k < 2 then i else j)) (Int32.ofNat (if k % 2 = 0 then c else e)) cx (jup (jup mf 0 0) 15 y) (jup mg 27 v) n' mb ml t1 z1 = _ := hsn
      have hea1 : K_m_eats D 0 (Int32.ofNat (if k % 2 = 0 then c else e)) cx (jup (jup mf 0 0) 15 y1) (jup mg 27 v) n1 mb ml t1 z1 = _ := hea
      have hlt4 : Int32.ofNat k < 4 := jlt_t (b := 4) (by omega) (by omega)
      have e43 : K_m_lot_34 D (Int32.ofNat i) (Int32.ofNat j) (Int32.ofNat c) (Int32.ofNat e) w (Int32.ofNat k) d7 d8 cx (jup (jup mf 0 0) 15 y) (jup mg 27 v) n' mb ml t1 z1 = K_m_lot_51 D (Int32.ofNat i) (Int32.ofNat j) (Int32.ofNat c) (Int32.ofNat e) w (Int32.ofNat k) (Int32.ofNat (if k < 2 then i else j)) d8 (Int32.ofNat (if k % 2 = 0 then c else e)) cx (jup (jup mf 0 0) 15 y) (jup mg 27 v) n' mb ml t1 z1 := by
        have hmod2 : (Int32.ofNat k - Int32.ofNat k / 2 * 2 = 0) = (k % 2 = 0) := by
          rw [show (2 : Int32) = Int32.ofNat 2 from rfl, jofmod (by omega) (by omega), show (0 : Int32) = Int32.ofNat 0 from rfl, jeqn (by omega) (by omega)]
        rw [L_m_lot_34, if_pos hlt4]
        by_cases k2 : k < 2
        · rw [if_pos (show Int32.ofNat k < 2 from jlt_t (b := 2) k2 (by omega)), E_m_lot_43, if_pos k2]
          by_cases kp : k % 2 = 0
          · rw [if_pos (by rw [hmod2]; exact kp), if_pos kp]
          · rw [if_neg (by rw [hmod2]; exact kp), if_neg kp]
        · rw [if_neg (show ¬ Int32.ofNat k < 2 from jlt_n (b := 2) (by omega) (by omega)), E_m_lot_43, if_neg k2]
          by_cases kp : k % 2 = 0
          · rw [if_pos (by rw [hmod2]; exact kp), if_pos kp]
          · rw [if_neg (by rw [hmod2]; exact kp), if_neg kp]
      have hVk : V k = if sees (if k < 2 then i else j) (if k % 2 = 0 then c else e) then 0 else meal (if k % 2 = 0 then c else e) := rfl
      have hvs : ∀ q, q < k + 1 → jup v k (V k) q = V q := by
        intro q hq
        by_cases hqk : q = k
        · subst hqk; rw [jup_same]
        · rw [jup_ne hqk]; exact hv q (by omega)
      by_cases hse : csees f (p (jq sw)) (pa (jq sw)) (s 0) (sa 0) wv (if k < 2 then i else j) (if k % 2 = 0 then c else e) = true
      · have hVk0 : V k = 0 := by rw [hVk]; exact if_pos hse
        rw [if_pos hse] at hsn1
        refine ⟨y1, n1, jup v k (V k), some (.int (Int32.ofNat (if k < 2 then i else j))), some (.int (Int32.ofNat (if k % 2 = 0 then c else e))), ?_, hvs⟩
        rw [hh, e43, E_m_lot_51, hsn1, hVk0]
        simp +decide (disch := omega) only [jbO_some, jbO_none, jbO_ite, jk_some, jk_none, E_m_lot_60, if_false, E_m_lot_67, jout_f, jclamp, jup_same, jup_jup, jsucc]
      · have hVkm : V k = meal (if k % 2 = 0 then c else e) := by rw [hVk]; exact if_neg hse
        rw [if_neg hse] at hsn1
        refine ⟨y2, n2', jup v k (V k), some (.int (Int32.ofNat (if k < 2 then i else j))), some (.int (Int32.ofNat (if k % 2 = 0 then c else e))), ?_, hvs⟩
        rw [hh, e43, E_m_lot_51, hsn1, hVkm]
        simp +decide (disch := omega) only [jbO_some, jbO_none, jbO_ite, jk_some, jk_none, E_m_lot_60, if_true, hea1, F_m_lot_67, E_m_lot_67, jout_f, if_false, jclamp, jup_same, jup_jup, jsucc]
        rfl
  obtain ⟨y, n', v, d7, d8, hh, hv⟩ := key 4 (Nat.le_refl 4)
  obtain ⟨l', hlay, hl'⟩ := M_layLot (D := D) (m := m) (cx := cx) (f := jup (jup mf 0 0) 15 y) (g := jup mg 27 v) (n := n') (b := mb) (l := ml) (t := t1) (z := z1) (fun k hk => ⟨(hV k).1, by rw [jup_same, hv k hk]; exact (hV k).2⟩)
  have hto : ∀ (k : Nat) (u : Int32), k < 4 → u.toInt = jlot m k → (l' k).toInt32 = u := by
    intro k u hk hu
    apply Int32.toInt_inj.mp
    have h1 := Int32.le_toInt u
    have h2 := Int32.toInt_lt u
    rw [Int64.toInt_toInt32, hl' k hk, ← hu]
    exact Int.bmod_eq_of_le (by omega) (by omega)
  refine ⟨jup (jup mf 0 0) 15 y, jup mg 27 v, n', mb, l', ?_, ?_⟩
  · simp only [E_m_lot, hms, hmc, if_neg hn1, if_neg hn2, if_neg q3, if_neg hn3, if_neg hn4, if_neg q4, if_neg q5, if_neg q6, jbO_some, jbO_none, jbO_ite, jk_some, jk_none, E_m_lot_6, E_m_lot_10, E_m_lot_17, E_m_lot_21, h10', if_false]
    rw [hh, L_m_lot_34, if_neg (by decide), hlay]
    simp only [jbO_some, jbO_none, jbO_ite, jk_some, jk_none, E_m_lot_72, E_m_lot_91]
    rw [hto 0 u0 (by omega) a0, hto 1 u1 (by omega) a1, hto 2 u2 (by omega) a2', hto 3 u3 (by omega) a3]
    by_cases w0 : w = 0
    · simp only [if_pos w0]
    by_cases w1 : w = 1
    · simp only [if_neg w0, if_pos w1]
    by_cases w2 : w = 2
    · simp only [if_neg w0, if_neg w1, if_pos w2]
    · simp only [if_neg w0, if_neg w1, if_neg w2]
  · rw [← hg11]
    exact RR_congr h (by intro k hk; simp (disch := omega) only [jup_ne]) (by intro k hk; simp (disch := omega) only [jup_ne]) rfl rfl (by constructor <;> simp (disch := omega) only [jup_ne]) (by constructor <;> simp (disch := omega) only [jup_ne]) (by intro k hk; simp (disch := omega) only [jup_ne]) ((jq1.hi (fun k hk => jup_ne (by omega)))) rfl (f' := jup (jup (jup (jup f 26 u0) 27 u1) 28 u2) 29 u3) (g' := jup g 11 (jup (jup (jup (jup (g 11) 0 (V 0)) 1 (V 1)) 2 (V 2)) 3 (V 3))) (s' := s) (sa' := sa) (p' := p) (pa' := pa) (sw' := sw) (mf' := jup (jup mf 0 0) 15 y) (mg' := jup mg 27 v) (mb' := mb)
