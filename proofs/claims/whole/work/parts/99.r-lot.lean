-- CALL BY CALL: lot, the numbers
theorem i_sub {x y : Int32} {X Y : Int} (hx : x.toInt = X) (hy : y.toInt = Y) (h : -1000000 ≤ X - Y ∧ X - Y ≤ 1000000) : (x - y).toInt = X - Y := by
  rw [Int32.toInt_sub, hx, hy]; exact Int.bmod_eq_of_le (by omega) (by omega)
theorem i_add {x y : Int32} {X Y : Int} (hx : x.toInt = X) (hy : y.toInt = Y) (h : -1000000 ≤ X + Y ∧ X + Y ≤ 1000000) : (x + y).toInt = X + Y := by
  rw [Int32.toInt_add, hx, hy]; exact Int.bmod_eq_of_le (by omega) (by omega)
theorem i_mul {x y : Int32} {X Y : Int} (hx : x.toInt = X) (hy : y.toInt = Y) (h : -1000000 ≤ X * Y ∧ X * Y ≤ 1000000) : (x * y).toInt = X * Y := by
  rw [Int32.toInt_mul, hx, hy]; exact Int.bmod_eq_of_le (by omega) (by omega)
theorem l_sub {x y : Int64} {X Y : Int} (hx : x.toInt = X) (hy : y.toInt = Y) (h : -1000000 ≤ X - Y ∧ X - Y ≤ 1000000) : (x - y).toInt = X - Y := by
  rw [Int64.toInt_sub, hx, hy]; exact Int.bmod_eq_of_le (by omega) (by omega)
theorem l_add {x y : Int64} {X Y : Int} (hx : x.toInt = X) (hy : y.toInt = Y) (h : -1000000 ≤ X + Y ∧ X + Y ≤ 1000000) : (x + y).toInt = X + Y := by
  rw [Int64.toInt_add, hx, hy]; exact Int.bmod_eq_of_le (by omega) (by omega)
theorem l_mul {x y : Int64} {X Y : Int} (hx : x.toInt = X) (hy : y.toInt = Y) (h : -1000000 ≤ X * Y ∧ X * Y ≤ 1000000) : (x * y).toInt = X * Y := by
  rw [Int64.toInt_mul, hx, hy]; exact Int.bmod_eq_of_le (by omega) (by omega)
theorem i_tdiv_bd {X G : Int} (h : -1000000 ≤ X ∧ X ≤ 1000000) : -1000000 ≤ X.tdiv G ∧ X.tdiv G ≤ 1000000 := by
  have h1 : (X.tdiv G).natAbs ≤ X.natAbs := by rw [Int.natAbs_tdiv]; exact Nat.div_le_self _ _
  omega
theorem i_div {x y : Int32} {X Y : Int} (hx : x.toInt = X) (hy : y.toInt = Y) (h : -1000000 ≤ X ∧ X ≤ 1000000) : (x / y).toInt = X.tdiv Y := by
  have := i_tdiv_bd (G := Y) h
  rw [Int32.toInt_div, hx, hy]; exact Int.bmod_eq_of_le (by omega) (by omega)
theorem l_div {x y : Int64} {X Y : Int} (hx : x.toInt = X) (hy : y.toInt = Y) (h : -1000000 ≤ X ∧ X ≤ 1000000) : (x / y).toInt = X.tdiv Y := by
  have := i_tdiv_bd (G := Y) h
  rw [Int64.toInt_div, hx, hy]; exact Int.bmod_eq_of_le (by omega) (by omega)
theorem j_abs {x : Int32} {X : Int} (hx : x.toInt = X) (h : -1000000 ≤ X ∧ X ≤ 1000000) : (if 0 ≤ x then x else 0 - x) = Int32.ofNat X.natAbs := by
  apply Int32.toInt_inj.mp
  rw [jtoInt (by omega)]
  have h0 : (0 : Int32).toInt = 0 := by decide
  by_cases hp : 0 ≤ x
  · rw [if_pos hp, hx]
    have := Int32.le_iff_toInt_le.mp hp
    rw [h0, hx] at this
    omega
  · rw [if_neg hp, i_sub h0 hx (by omega)]
    have : ¬ (0 : Int32).toInt ≤ x.toInt := fun q => hp (Int32.le_iff_toInt_le.mpr q)
    rw [h0, hx] at this
    omega
theorem l_abs {x : Int64} {X : Int} (hx : x.toInt = X) (h : -1000000 ≤ X ∧ X ≤ 1000000) : (if 0 < x then x else -x) = Int64.ofNat X.natAbs := by
  apply Int64.toInt_inj.mp
  rw [Int64.toInt_ofNat_of_lt (by omega)]
  have h0 : (0 : Int64).toInt = 0 := by decide
  by_cases hp : 0 < x
  · rw [if_pos hp, hx]
    have := Int64.lt_iff_toInt_lt.mp hp
    rw [h0, hx] at this
    omega
  · rw [if_neg hp, Int64.toInt_neg, hx]
    have : ¬ (0 : Int64).toInt < x.toInt := fun q => hp (Int64.lt_iff_toInt_lt.mpr q)
    rw [h0, hx] at this
    rw [Int.bmod_eq_of_le (by omega) (by omega)]
    omega
theorem S_o_shared_8 {D : Nat} {d0 d1 : Option Value} : ∀ (n x y k : Nat) {d5 : Option Value} {f : Nat → Int32} {g : Nat → Nat → Int32} {n2 : Nat → Nat → Int64} {p : Nat → Nat → Int32} {pa : Nat → Nat → Nat → Int32} {s : Nat → Nat → Int32} {sa : Nat → Nat → Nat → Int32} {sw : Bool} {rp : Value} {t : List jE} {z : Nat × Nat × Nat × (Nat → Int32)} (_ : y < 2 ^ n) (_ : k + 2 * n + 1 ≤ 64) (_ : x < 2000000) (_ : y < 2000000), K_o_shared_8 D d0 d1 (Int32.ofNat x) (Int32.ofNat y) (Int32.ofNat k) d5 f g n2 p pa s sa sw rp t z = some (.inl (some (.int (if 1 < Int32.ofNat (Nat.gcd x y) then Int32.ofNat (Nat.gcd x y) else 1))), (jX f g n2 p pa s sa sw rp t, z)) := by
  have hz : ∀ {x k : Nat} {d5 : Option Value} {f : Nat → Int32} {g : Nat → Nat → Int32} {n2 : Nat → Nat → Int64} {p : Nat → Nat → Int32} {pa : Nat → Nat → Nat → Int32} {s : Nat → Nat → Int32} {sa : Nat → Nat → Nat → Int32} {sw : Bool} {rp : Value} {t : List jE} {z : Nat × Nat × Nat × (Nat → Int32)}, k < 64 → K_o_shared_8 D d0 d1 (Int32.ofNat x) 0 (Int32.ofNat k) d5 f g n2 p pa s sa sw rp t z = some (.inl (some (.int (if 1 < Int32.ofNat x then Int32.ofNat x else 1))), (jX f g n2 p pa s sa sw rp t, z)) := by
    intro x k d5 f g n2 p pa s sa sw rp t z hk
    rw [L_o_shared_8, if_pos (show Int32.ofNat k < 64 from jlt_t (b := 64) hk (by omega)), if_pos rfl, E_o_shared_23]
  have hs : ∀ {x y k : Nat} {d5 : Option Value} {f : Nat → Int32} {g : Nat → Nat → Int32} {n2 : Nat → Nat → Int64} {p : Nat → Nat → Int32} {pa : Nat → Nat → Nat → Int32} {s : Nat → Nat → Int32} {sa : Nat → Nat → Nat → Int32} {sw : Bool} {rp : Value} {t : List jE} {z : Nat × Nat × Nat × (Nat → Int32)}, k < 64 → 0 < y → x < 2000000 → y < 2000000 → K_o_shared_8 D d0 d1 (Int32.ofNat x) (Int32.ofNat y) (Int32.ofNat k) d5 f g n2 p pa s sa sw rp t z = K_o_shared_8 D d0 d1 (Int32.ofNat y) (Int32.ofNat (x % y)) (Int32.ofNat (k + 1)) (some (.int (Int32.ofNat (x % y)))) f g n2 p pa s sa sw rp t z := by
    intro x y k d5 f g n2 p pa s sa sw rp t z hk hy hx1 hy1
    have hne : ¬ Int32.ofNat y = 0 := by rw [show (0 : Int32) = Int32.ofNat 0 from rfl, jeqn (by omega) (by omega)]; omega
    rw [L_o_shared_8, if_pos (show Int32.ofNat k < 64 from jlt_t (b := 64) hk (by omega)), if_neg hne, if_neg hne, jofmod (by omega) (by omega), jsucc]
  intro n
  induction n with
  | zero =>
    intro x y k d5 f g n2 p pa s sa sw rp t z hy hk _ _
    have hy0 : y = 0 := by simp at hy; exact hy
    subst hy0
    rw [Nat.gcd_zero_right]
    exact hz (by omega)
  | succ n ih =>
    intro x y k d5 f g n2 p pa s sa sw rp t z hy hk hx1 hy1
    by_cases hy0 : y = 0
    · subst hy0
      rw [Nat.gcd_zero_right]
      exact hz (by omega)
    have hm : x % y < y := Nat.mod_lt _ (by omega)
    have hg : Nat.gcd x y = Nat.gcd y (x % y) := by rw [Nat.gcd_comm x y, Nat.gcd_rec y x, Nat.gcd_comm]
    rw [hs (by omega) (by omega) hx1 hy1, hg]
    by_cases hr0 : x % y = 0
    · rw [hr0, Nat.gcd_zero_right]
      exact hz (by omega)
    · have hm2 : y % (x % y) < x % y := Nat.mod_lt _ (by omega)
      have hg2 : Nat.gcd y (x % y) = Nat.gcd (x % y) (y % (x % y)) := by rw [Nat.gcd_comm y (x % y), Nat.gcd_rec (x % y) y, Nat.gcd_comm]
      have hhalf : y % (x % y) < 2 ^ n := by
        rw [Nat.pow_succ] at hy
        have h3 := Nat.div_add_mod y (x % y)
        have h4 : 1 ≤ y / (x % y) := Nat.div_pos (by omega) (by omega)
        have h5 : x % y ≤ (x % y) * (y / (x % y)) := Nat.le_mul_of_pos_right _ h4
        omega
      rw [hs (by omega) (by omega) (by omega) (by omega), hg2]
      exact ih (x % y) (y % (x % y)) (k + 1 + 1) hhalf (by omega) (by omega) (by omega)
theorem S_o_shared {D : Nat} {x y : Int32} {X Y : Int} {f : Nat → Int32} {g : Nat → Nat → Int32} {n2 : Nat → Nat → Int64} {p : Nat → Nat → Int32} {pa : Nat → Nat → Nat → Int32} {s : Nat → Nat → Int32} {sa : Nat → Nat → Nat → Int32} {sw : Bool} {rp : Value} {t : List jE} {z : Nat × Nat × Nat × (Nat → Int32)} (hx : x.toInt = X) (hy : y.toInt = Y) (h1 : -1000000 ≤ X ∧ X ≤ 1000000) (h2 : -1000000 ≤ Y ∧ Y ≤ 1000000) : K_o_shared D x y f g n2 p pa s sa sw rp t z = some (.inl (some (.int (if 1 < Int32.ofNat (Int.gcd X Y) then Int32.ofNat (Int.gcd X Y) else 1))), (jX f g n2 p pa s sa sw rp t, z)) := by
  rw [E_o_shared, j_abs hx h1, j_abs hy h2]
  exact S_o_shared_8 20 X.natAbs Y.natAbs 0 (by omega) (by omega) (by omega) (by omega)
theorem M_common_6 {D : Nat} {d0 d1 d2 d3 : Option Value} {e0 e2 : Option Int64} : ∀ (y x : Nat) {d8 d9 : Option Value} {e8 : Option Int64} {cx : jCX} {f : Nat → Int32} {g : Nat → Nat → Int32} {n : Nat → Nat → Int64} {b : Nat → Nat → Int32} {l : Nat → Int64} {t : List jE} {z : Nat × Nat × Nat × (Nat → Int32)} (_ : x ≤ 1000000) (_ : y ≤ 1000000), K_m_common_6 D d0 e0 d1 d2 e2 d3 (Int64.ofNat x) (Int64.ofNat y) d8 e8 d9 cx f g n b l t z = some (.inl (some (.long (Int64.ofNat (Nat.gcd x y)))), (jXt cx (jY f g n b l t), z)) := by
  intro y
  induction y using Nat.strongRecOn with
  | _ y ih =>
    intro x d8 d9 e8 cx f g n b l t z hx hy
    by_cases hy0 : y = 0
    · subst hy0
      rw [L_m_common_6]
      simp only [lg_cmp_eq]
      rw [if_pos (show Int64.ofNat 0 = 0 from rfl), Nat.gcd_zero_right]
    · have hne : ¬ Int64.ofNat y = 0 := by
        intro e
        have := congrArg Int64.toInt e
        rw [Int64.toInt_ofNat_of_lt (by omega), show (0 : Int64).toInt = 0 by decide] at this
        omega
      have hm : x % y < y := Nat.mod_lt _ (by omega)
      have hg : Nat.gcd x y = Nat.gcd y (x % y) := by rw [Nat.gcd_comm x y, Nat.gcd_rec y x, Nat.gcd_comm]
      have hmod : Int64.ofNat x - Int64.ofNat x / Int64.ofNat y * Int64.ofNat y = Int64.ofNat (x % y) := by
        have h1 : x / y * y ≤ x := Nat.div_mul_le_self x y
        have h2 : Int64.ofNat x / Int64.ofNat y = Int64.ofNat (x / y) := by
          apply Int64.toInt_inj.mp
          have hd : x / y ≤ x := Nat.div_le_self x y
          rw [l_div (X := (x : Int)) (Y := (y : Int)) (Int64.toInt_ofNat_of_lt (by omega)) (Int64.toInt_ofNat_of_lt (by omega)) (by omega), Int64.toInt_ofNat_of_lt (by omega), Int.ofNat_tdiv]
        rw [h2, ← Int64.ofNat_mul, ← Int64.ofNat_sub _ _ h1]
        congr 1
        have := Nat.div_add_mod x y
        rw [Nat.mul_comm] at this
        omega
      rw [L_m_common_6]
      simp only [lg_cmp_eq, hne, if_false, hmod]
      rw [hg]
      exact ih (x % y) hm y (by omega) (by omega)
theorem M_common {D : Nat} {x y : Int64} {X Y : Int} {cx : jCX} {f : Nat → Int32} {g : Nat → Nat → Int32} {n : Nat → Nat → Int64} {b : Nat → Nat → Int32} {l : Nat → Int64} {t : List jE} {z : Nat × Nat × Nat × (Nat → Int32)} (hx : x.toInt = X) (hy : y.toInt = Y) (h1 : -1000000 ≤ X ∧ X ≤ 1000000) (h2 : -1000000 ≤ Y ∧ Y ≤ 1000000) : K_m_common D x y cx f g n b l t z = some (.inl (some (.long (Int64.ofNat (Int.gcd X Y)))), (jXt cx (jY f g n b l t), z)) := by
  rw [E_m_common, l_abs hx h1, l_abs hy h2]
  exact M_common_6 Y.natAbs X.natAbs (by omega) (by omega)
def jg (X Y : Int) : Nat := if 1 < Int.gcd X Y then Int.gcd X Y else 1
theorem jg_bd {X Y : Int} (h1 : -1000000 ≤ X ∧ X ≤ 1000000) (h2 : -1000000 ≤ Y ∧ Y ≤ 1000000) : Int.gcd X Y ≤ 1000000 := by
  by_cases hX : X = 0
  · subst hX; rw [Int.gcd_zero_left]; omega
  · have := Int.gcd_le_natAbs_left Y (a := X) hX
    omega
theorem S_o_put {D : Nat} {a0 a1 a2 a3 : Int32} {X0 X1 X2 X3 : Int} {f : Nat → Int32} {g : Nat → Nat → Int32} {n2 : Nat → Nat → Int64} {p : Nat → Nat → Int32} {pa : Nat → Nat → Nat → Int32} {s : Nat → Nat → Int32} {sa : Nat → Nat → Nat → Int32} {sw : Bool} {rp : Value} {t : List jE} {z : Nat × Nat × Nat × (Nat → Int32)} (h0 : a0.toInt = X0) (h1 : a1.toInt = X1) (h2 : a2.toInt = X2) (h3 : a3.toInt = X3) (b0 : -1000000 ≤ X0 ∧ X0 ≤ 1000000) (b1 : -1000000 ≤ X1 ∧ X1 ≤ 1000000) (b2 : -1000000 ≤ X2 ∧ X2 ≤ 1000000) (b3 : -1000000 ≤ X3 ∧ X3 ≤ 1000000) :
    ∃ u0 u1 u2 u3, K_o_put D a0 a1 a2 a3 f g n2 p pa s sa sw rp t z = some (.inl none, (jX (jup (jup (jup (jup f 26 u0) 27 u1) 28 u2) 29 u3) g n2 p pa s sa sw rp t, z)) ∧ u0.toInt = X0.tdiv (jg X0 X1 : Nat) ∧ u1.toInt = X1.tdiv (jg X0 X1 : Nat) ∧ u2.toInt = X2.tdiv (jg X2 X3 : Nat) ∧ u3.toInt = X3.tdiv (jg X2 X3 : Nat) := by
  have hG : ∀ {X Y : Int}, -1000000 ≤ X ∧ X ≤ 1000000 → -1000000 ≤ Y ∧ Y ≤ 1000000 → (if 1 < Int32.ofNat (Int.gcd X Y) then Int32.ofNat (Int.gcd X Y) else 1) = Int32.ofNat (jg X Y) ∧ 1 ≤ jg X Y ∧ jg X Y ≤ 1000000 := by
    intro X Y hX hY
    have hb := jg_bd hX hY
    unfold jg
    by_cases hl : 1 < Int.gcd X Y
    · rw [if_pos (show (1 : Int32) < Int32.ofNat (Int.gcd X Y) from jlt_t (a := 1) hl (by omega)), if_pos hl]
      exact ⟨rfl, by omega, hb⟩
    · rw [if_neg (show ¬ (1 : Int32) < Int32.ofNat (Int.gcd X Y) from jlt_n (b := Int.gcd X Y) (a := 1) (by omega) (by omega)), if_neg hl]
      exact ⟨rfl, by omega, by omega⟩
  obtain ⟨e1, p1, q1⟩ := hG b0 b1
  obtain ⟨e2, p2, q2⟩ := hG b2 b3
  have n1 : ¬ Int32.ofNat (jg X0 X1) = 0 := by rw [show (0 : Int32) = Int32.ofNat 0 from rfl, jeqn (by omega) (by omega)]; omega
  have n2' : ¬ Int32.ofNat (jg X2 X3) = 0 := by rw [show (0 : Int32) = Int32.ofNat 0 from rfl, jeqn (by omega) (by omega)]; omega
  refine ⟨a0 / Int32.ofNat (jg X0 X1), a1 / Int32.ofNat (jg X0 X1), a2 / Int32.ofNat (jg X2 X3), a3 / Int32.ofNat (jg X2 X3), ?_, ?_, ?_, ?_, ?_⟩
  · rw [E_o_put, S_o_shared h0 h1 b0 b1, e1]
    simp only [jbO_some, jbO_none, jbO_ite, jk_some, jk_none, E_o_put_3, n1, if_false]
    rw [S_o_shared h2 h3 b2 b3, e2]
    simp only [jbO_some, jbO_none, jbO_ite, jk_some, jk_none, E_o_put_17, n2', if_false]
  · exact i_div h0 (jtoInt (by omega)) b0
  · exact i_div h1 (jtoInt (by omega)) b1
  · exact i_div h2 (jtoInt (by omega)) b2
  · exact i_div h3 (jtoInt (by omega)) b3
