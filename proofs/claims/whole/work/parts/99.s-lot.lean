-- CALL BY CALL: lot, both solve it
def jl4 (a b c d : Int) : Nat → Int
  | 0 => a
  | 1 => b
  | 2 => c
  | _ => d
def jof (m : Nat → Nat) : Int := (m 0 : Int) - m 1 - m 2 + m 3
def jsg (m : Nat → Nat) : Int := if jof m < 0 then -1 else 1
def jlot (m : Nat → Nat) : Nat → Int :=
  if ¬ m 2 < m 0 ∧ ¬ m 0 < m 1 then jl4 1 1 (m 0) 1 else if ¬ m 3 < m 1 ∧ ¬ m 1 < m 0 then jl4 1 1 (m 1) 1 else
  if ¬ m 0 < m 2 ∧ ¬ m 2 < m 3 then jl4 0 1 (m 2) 1 else if ¬ m 1 < m 3 ∧ ¬ m 3 < m 2 then jl4 0 1 (m 3) 1 else
  jl4 ((jsg m * ((m 3 : Int) - m 2)).tdiv (jg (jsg m * ((m 3 : Int) - m 2)) (jsg m * jof m) : Nat)) ((jsg m * jof m).tdiv (jg (jsg m * ((m 3 : Int) - m 2)) (jsg m * jof m) : Nat))
    ((jsg m * ((m 0 : Int) * m 3 - (m 1 : Int) * m 2)).tdiv (jg (jsg m * ((m 0 : Int) * m 3 - (m 1 : Int) * m 2)) (jsg m * jof m) : Nat)) ((jsg m * jof m).tdiv (jg (jsg m * ((m 0 : Int) * m 3 - (m 1 : Int) * m 2)) (jsg m * jof m) : Nat))
theorem jprod_bd {a b : Nat} (ha : a < 100) (hb : b < 100) : 0 ≤ (a : Int) * b ∧ (a : Int) * b ≤ 9801 := by
  have h : a * b ≤ 99 * 99 := Nat.mul_le_mul (by omega) (by omega)
  have h2 : (a : Int) * b = ((a * b : Nat) : Int) := by rw [Int.natCast_mul]
  rw [h2]; omega
theorem jg_1 {X : Int} : jg X 1 = 1 := by unfold jg; rw [Int.gcd_one_right]; rfl
theorem S_o_settle {D : Nat} {m : Nat → Nat} {f : Nat → Int32} {g : Nat → Nat → Int32} {n2 : Nat → Nat → Int64} {p : Nat → Nat → Int32} {pa : Nat → Nat → Nat → Int32} {s : Nat → Nat → Int32} {sa : Nat → Nat → Nat → Int32} {sw : Bool} {rp : Value} {t : List jE} {z : Nat × Nat × Nat × (Nat → Int32)} (hm : ∀ k, k < 4 → m k < 100 ∧ g 11 k = Int32.ofNat (m k)) :
    ∃ u0 u1 u2 u3, K_o_settle D f g n2 p pa s sa sw rp t z = some (.inl none, (jX (jup (jup (jup (jup f 26 u0) 27 u1) 28 u2) 29 u3) g n2 p pa s sa sw rp t, z)) ∧ u0.toInt = jlot m 0 ∧ u1.toInt = jlot m 1 ∧ u2.toInt = jlot m 2 ∧ u3.toInt = jlot m 3 := by
  obtain ⟨b0, e0⟩ := hm 0 (by omega)
  obtain ⟨b1, e1⟩ := hm 1 (by omega)
  obtain ⟨b2, e2⟩ := hm 2 (by omega)
  obtain ⟨b3, e3⟩ := hm 3 (by omega)
  have t0 : (g 11 0).toInt = m 0 := by rw [e0]; exact jtoInt (by omega)
  have t1 : (g 11 1).toInt = m 1 := by rw [e1]; exact jtoInt (by omega)
  have t2 : (g 11 2).toInt = m 2 := by rw [e2]; exact jtoInt (by omega)
  have t3 : (g 11 3).toInt = m 3 := by rw [e3]; exact jtoInt (by omega)
  have lt : ∀ {a b : Nat}, a < 100 → b < 100 → ((Int32.ofNat a < Int32.ofNat b) ↔ a < b) := fun ha hb => by rw [jltn (by omega) (by omega)]
  have c20 : (g 11 2 < g 11 0) ↔ m 2 < m 0 := by rw [e2, e0]; exact lt b2 b0
  have c01 : (g 11 0 < g 11 1) ↔ m 0 < m 1 := by rw [e0, e1]; exact lt b0 b1
  have c31 : (g 11 3 < g 11 1) ↔ m 3 < m 1 := by rw [e3, e1]; exact lt b3 b1
  have c10 : (g 11 1 < g 11 0) ↔ m 1 < m 0 := by rw [e1, e0]; exact lt b1 b0
  have c02 : (g 11 0 < g 11 2) ↔ m 0 < m 2 := by rw [e0, e2]; exact lt b0 b2
  have c23 : (g 11 2 < g 11 3) ↔ m 2 < m 3 := by rw [e2, e3]; exact lt b2 b3
  have c13 : (g 11 1 < g 11 3) ↔ m 1 < m 3 := by rw [e1, e3]; exact lt b1 b3
  have c32 : (g 11 3 < g 11 2) ↔ m 3 < m 2 := by rw [e3, e2]; exact lt b3 b2
  -- one place
  have one : ∀ (r c : Int32) (k ko kc : Nat) {d3 : Option Value}, c < 2 → ¬ jout ((1 - r) * 2 + c) 4 → ¬ jout (r * 2 + c) 4 → ¬ jout (r * 2 + 1 - c) 4 → (r * 2 + c).toNatClampNeg = k → ((1 - r) * 2 + c).toNatClampNeg = ko → (r * 2 + 1 - c).toNatClampNeg = kc → K_o_settle_7 D r c d3 f g n2 p pa s sa sw rp t z = if ¬ g 11 ko < g 11 k ∧ ¬ g 11 k < g 11 kc then jbO (K_o_put D (1 - r) 1 (g 11 k) 1 f g n2 p pa s sa sw rp t z) (jk D 26 51 ([some (.ref 76), some (.int r), some (.int c), some (.int (g 11 k))], []) []) else K_o_settle_7 D r (c + 1) (some (.int (g 11 k))) f g n2 p pa s sa sw rp t z := by
    intro r c k ko kc d3 h1 h2 h3 h4 h5 h6 h7
    rw [L_o_settle_7, if_pos h1, if_neg h3, if_neg h2, h5, h6]
    by_cases ha : g 11 ko < g 11 k
    · rw [if_pos ha, if_neg (fun q => q.1 ha), E_o_settle_52]
    · rw [if_neg ha, if_neg h4, h7]
      by_cases hb : g 11 k < g 11 kc
      · rw [if_pos hb, if_neg (fun q => q.2 hb), E_o_settle_52]
      · rw [if_neg hb, if_pos ⟨ha, hb⟩]
  have nj : ∀ k : Nat, k < 4 → ¬ jout (Int32.ofNat k) 4 := fun k hk => jout_n hk (by omega)
  have q0 := one 0 0 0 2 1 (d3 := none) (by decide) (nj 2 (by omega)) (nj 0 (by omega)) (nj 1 (by omega)) rfl rfl rfl
  have q1 := fun {d3} => one 0 1 1 3 0 (d3 := d3) (by decide) (nj 3 (by omega)) (nj 1 (by omega)) (nj 0 (by omega)) rfl rfl rfl
  have q2 := fun {d3} => one 1 0 2 0 3 (d3 := d3) (by decide) (nj 0 (by omega)) (nj 2 (by omega)) (nj 3 (by omega)) rfl rfl rfl
  have q3 := fun {d3} => one 1 1 3 1 2 (d3 := d3) (by decide) (nj 1 (by omega)) (nj 3 (by omega)) (nj 2 (by omega)) rfl rfl rfl
  have n2' : ∀ {r : Int32} {d3 : Option Value}, K_o_settle_7 D r (1 + 1) d3 f g n2 p pa s sa sw rp t z = K_o_settle_2 D (r + 1) (some (.int (1 + 1))) d3 f g n2 p pa s sa sw rp t z := by
    intro r d3
    rw [L_o_settle_7, if_neg (by decide)]
  have fin : ∀ {k : Nat} {r : Int32} {R : Int} {d1 d2 d3 : Option Value}, k < 4 → (1 - r).toInt = R → (R = 0 ∨ R = 1) → (g 11 k).toInt = m k → jlot m = jl4 R 1 (m k) 1 → ∃ u0 u1 u2 u3, jbO (K_o_put D (1 - r) 1 (g 11 k) 1 f g n2 p pa s sa sw rp t z) (jk D 26 51 ([some (.ref 76), d1, d2, d3], []) []) = some (.inl none, (jX (jup (jup (jup (jup f 26 u0) 27 u1) 28 u2) 29 u3) g n2 p pa s sa sw rp t, z)) ∧ u0.toInt = jlot m 0 ∧ u1.toInt = jlot m 1 ∧ u2.toInt = jlot m 2 ∧ u3.toInt = jlot m 3 := by
    intro k r R d1 d2 d3 hk hR hR2 hg hl
    have hmk := (hm k hk).1
    obtain ⟨u0, u1, u2, u3, hp, a0, a1, a2, a3⟩ := S_o_put (D := D) (a0 := 1 - r) (a1 := 1) (a2 := g 11 k) (a3 := 1) (X1 := 1) (X3 := 1) (f := f) (g := g) (n2 := n2) (p := p) (pa := pa) (s := s) (sa := sa) (sw := sw) (rp := rp) (t := t) (z := z) hR (by decide) hg (by decide) (by omega) (by omega) (by omega) (by omega)
    rw [jg_1] at a0 a1
    rw [jg_1] at a2 a3
    refine ⟨u0, u1, u2, u3, ?_, ?_, ?_, ?_, ?_⟩
    · rw [hp]; simp only [jbO_some, jbO_none, jbO_ite, jk_some, jk_none, E_o_settle_51]
    · rw [a0, hl]; simp [jl4]
    · rw [a1, hl]; simp [jl4]
    · rw [a2, hl]; simp [jl4]
    · rw [a3, hl]; simp [jl4]
  rw [E_o_settle, L_o_settle_2, if_pos (by decide), q0]
  by_cases h0 : ¬ g 11 2 < g 11 0 ∧ ¬ g 11 0 < g 11 1
  · rw [if_pos h0]
    refine fin (k := 0) (R := 1) (by omega) (by decide) (Or.inr rfl) t0 ?_
    unfold jlot; rw [if_pos ⟨fun q => h0.1 (c20.mpr q), fun q => h0.2 (c01.mpr q)⟩]
  rw [if_neg h0, show (0 : Int32) + 1 = 1 from rfl, q1]
  have h0' : ¬ (¬ m 2 < m 0 ∧ ¬ m 0 < m 1) := fun q => h0 ⟨fun w => q.1 (c20.mp w), fun w => q.2 (c01.mp w)⟩
  by_cases h1 : ¬ g 11 3 < g 11 1 ∧ ¬ g 11 1 < g 11 0
  · rw [if_pos h1]
    refine fin (k := 1) (R := 1) (by omega) (by decide) (Or.inr rfl) t1 ?_
    unfold jlot; rw [if_neg h0', if_pos ⟨fun q => h1.1 (c31.mpr q), fun q => h1.2 (c10.mpr q)⟩]
  have h1' : ¬ (¬ m 3 < m 1 ∧ ¬ m 1 < m 0) := fun q => h1 ⟨fun w => q.1 (c31.mp w), fun w => q.2 (c10.mp w)⟩
  rw [if_neg h1, n2', show (0 : Int32) + 1 = 1 from rfl, L_o_settle_2, if_pos (by decide), q2]
  by_cases h2 : ¬ g 11 0 < g 11 2 ∧ ¬ g 11 2 < g 11 3
  · rw [if_pos h2]
    refine fin (k := 2) (R := 0) (by omega) (by decide) (Or.inl rfl) t2 ?_
    unfold jlot; rw [if_neg h0', if_neg h1', if_pos ⟨fun q => h2.1 (c02.mpr q), fun q => h2.2 (c23.mpr q)⟩]
  have h2' : ¬ (¬ m 0 < m 2 ∧ ¬ m 2 < m 3) := fun q => h2 ⟨fun w => q.1 (c02.mp w), fun w => q.2 (c23.mp w)⟩
  rw [if_neg h2, show (0 : Int32) + 1 = 1 from rfl, q3]
  by_cases h3 : ¬ g 11 1 < g 11 3 ∧ ¬ g 11 3 < g 11 2
  · rw [if_pos h3]
    refine fin (k := 3) (R := 0) (by omega) (by decide) (Or.inl rfl) t3 ?_
    unfold jlot; rw [if_neg h0', if_neg h1', if_neg h2', if_pos ⟨fun q => h3.1 (c13.mpr q), fun q => h3.2 (c32.mpr q)⟩]
  have h3' : ¬ (¬ m 1 < m 3 ∧ ¬ m 3 < m 2) := fun q => h3 ⟨fun w => q.1 (c13.mp w), fun w => q.2 (c32.mp w)⟩
  rw [if_neg h3, n2', show (1 : Int32) + 1 = 2 from rfl, L_o_settle_2, if_neg (by decide)]
  have hof : ((((g 11 0) - (g 11 1)) - (g 11 2)) + (g 11 3)).toInt = jof m := i_add (i_sub (i_sub t0 t1 (by omega)) t2 (by omega)) t3 (by omega)
  have hofb : -1000 ≤ jof m ∧ jof m ≤ 1000 := by unfold jof; omega
  have hd : (g 11 3 - g 11 2).toInt = (m 3 : Int) - m 2 := i_sub t3 t2 (by omega)
  have p1 := jprod_bd b0 b3
  have p2 := jprod_bd b1 b2
  have hdet : (g 11 0 * g 11 3 - g 11 1 * g 11 2).toInt = (m 0 : Int) * m 3 - (m 1 : Int) * m 2 := i_sub (i_mul t0 t3 (by omega)) (i_mul t1 t2 (by omega)) (by omega)
  have h0i : (0 : Int32).toInt = 0 := by decide
  have last : ∀ (sg : Int32), sg.toInt = jsg m → ∃ u0 u1 u2 u3, K_o_settle_81 D ((((g 11 0) - (g 11 1)) - (g 11 2)) + (g 11 3)) (some (.int 2)) (some (.int (g 11 3))) sg f g n2 p pa s sa sw rp t z = some (.inl none, (jX (jup (jup (jup (jup f 26 u0) 27 u1) 28 u2) 29 u3) g n2 p pa s sa sw rp t, z)) ∧ u0.toInt = jlot m 0 ∧ u1.toInt = jlot m 1 ∧ u2.toInt = jlot m 2 ∧ u3.toInt = jlot m 3 := by
    intro sg hsg
    have hsg2 : jsg m = 1 ∨ jsg m = -1 := by unfold jsg; split <;> simp
    have mb : ∀ {Y : Int}, -100000 ≤ Y ∧ Y ≤ 100000 → -1000000 ≤ jsg m * Y ∧ jsg m * Y ≤ 1000000 := by
      intro Y hY
      rcases hsg2 with q | q <;> rw [q] <;> omega
    obtain ⟨u0, u1, u2, u3, hp, a0, a1, a2, a3⟩ := S_o_put (D := D) (f := f) (g := g) (n2 := n2) (p := p) (pa := pa) (s := s) (sa := sa) (sw := sw) (rp := rp) (t := t) (z := z) (i_mul hsg hd (mb (by omega))) (i_mul hsg hof (mb (by omega))) (i_mul hsg hdet (mb (by omega))) (i_mul hsg hof (mb (by omega))) (mb (by omega)) (mb (by omega)) (mb (by omega)) (mb (by omega))
    refine ⟨u0, u1, u2, u3, ?_, ?_, ?_, ?_, ?_⟩
    · rw [E_o_settle_81, hp]; simp only [jbO_some, jbO_none, jbO_ite, jk_some, jk_none, E_o_settle_122]
    · rw [a0]; unfold jlot; rw [if_neg h0', if_neg h1', if_neg h2', if_neg h3']; rfl
    · rw [a1]; unfold jlot; rw [if_neg h0', if_neg h1', if_neg h2', if_neg h3']; rfl
    · rw [a2]; unfold jlot; rw [if_neg h0', if_neg h1', if_neg h2', if_neg h3']; rfl
    · rw [a3]; unfold jlot; rw [if_neg h0', if_neg h1', if_neg h2', if_neg h3']; rfl
  by_cases hneg : ((((g 11 0) - (g 11 1)) - (g 11 2)) + (g 11 3)) < 0
  · rw [if_pos hneg]
    refine last (-1) ?_
    have := Int32.lt_iff_toInt_lt.mp hneg
    rw [hof, h0i] at this
    unfold jsg; rw [if_pos this]; decide
  · rw [if_neg hneg]
    refine last 1 ?_
    have : ¬ jof m < 0 := fun q => hneg (Int32.lt_iff_toInt_lt.mpr (by rw [hof, h0i]; exact q))
    unfold jsg; rw [if_neg this]; decide
