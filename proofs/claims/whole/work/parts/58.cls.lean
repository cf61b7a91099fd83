-- THE CLASS's SMALL METHODS
theorem jlt_t {a b : Nat} (h : a < b) (hb : b < 2147483648) : Int32.ofNat a < Int32.ofNat b := by rw [jltn (by omega) hb]; exact h
theorem jlt_n {a b : Nat} (h : b ≤ a) (hb : a < 2147483648) : ¬ Int32.ofNat a < Int32.ofNat b := by rw [jltn hb (by omega)]; omega
theorem jout_n {k n : Nat} (h : k < n) (hn : n ≤ 2147483648) : ¬ jout (Int32.ofNat k) n := by rw [jout_f h hn]; exact fun q => q
theorem jout_y {k n : Nat} (h : n ≤ k) (hk : k < 2147483648) : jout (Int32.ofNat k) n := Or.inr (by rw [jclamp hk]; exact h)
/-- a plan that was told: its cells C, its scares Sc -/
def jPl (q : Nat → Int32) (qa : Nat → Nat → Int32) (C Sc : Nat) : Prop :=
  q 1 * q 2 = Int32.ofNat C ∧ C ≤ 30 ∧ 1 ≤ C ∧ ¬ q 1 < 1 ∧ q 3 = Int32.ofNat Sc ∧ Sc ≤ 6 ∧ (∃ Wn, q 5 = Int32.ofNat Wn ∧ Wn ≤ 14) ∧ (∀ i, i < Sc → ∃ c, c < C ∧ qa 2 i = Int32.ofNat c) ∧
  (∃ n, q 10 = Int32.ofNat n ∧ jwf n (qa 8) (qa 9)) ∧ (∃ n, q 11 = Int32.ofNat n ∧ jwf n (qa 10) (qa 11)) ∧ (∃ n, q 12 = Int32.ofNat n ∧ jwf n (qa 12) (qa 13))
theorem jPl.nz {q : Nat → Int32} {qa : Nat → Nat → Int32} {C Sc : Nat} (h : jPl q qa C Sc) : ¬ q 1 = 0 := by
  intro e
  apply h.2.2.2.1
  rw [e]; decide
def jabs (x : Int32) : Int32 := if 0 ≤ x then x else 0 - x
def jdist (wd x y : Int32) : Int32 := jabs ((x - x / wd * wd) - (y - y / wd * wd)) + jabs (x / wd - y / wd)
theorem S_p_distance {D : Nat} {w : Bool} {x y : Int32} {f : Nat → Int32} {g : Nat → Nat → Int32} {n2 : Nat → Nat → Int64} {p : Nat → Nat → Int32} {pa : Nat → Nat → Nat → Int32} {s : Nat → Nat → Int32} {sa : Nat → Nat → Nat → Int32} {sw : Bool} {rp : Value} {t : List jE} {z : Nat × Nat × Nat × (Nat → Int32)} (h1 : ¬ p (jq w) 1 < 1) (h0 : ¬ p (jq w) 1 = 0) : K_p_distance D w x y f g n2 p pa s sa sw rp t z = some (.inl (some (.int (jdist (p (jq w) 1) x y))), (jX f g n2 p pa s sa sw rp t, z)) := by
  simp only [E_p_distance, h1, h0, if_false, jdist, jabs]
theorem S_p_hasCell {D : Nat} {w : Bool} {x : Int32} {C : Nat} {f : Nat → Int32} {g : Nat → Nat → Int32} {n2 : Nat → Nat → Int64} {p : Nat → Nat → Int32} {pa : Nat → Nat → Nat → Int32} {s : Nat → Nat → Int32} {sa : Nat → Nat → Nat → Int32} {sw : Bool} {rp : Value} {t : List jE} {z : Nat × Nat × Nat × (Nat → Int32)} (hC : p (jq w) 1 * p (jq w) 2 = Int32.ofNat C) (hn : C ≤ 30) : K_p_hasCell D w x f g n2 p pa s sa sw rp t z = some (.inl (some (.int (if jout x C then 0 else 1))), (jX f g n2 p pa s sa sw rp t, z)) := by
  simp only [E_p_hasCell, E_p_hasCell_5, E_p_cells, jbO_some, jbO_none, jbO_ite, jk_some, jk_none, hC]
  rcases jcases x with h | ⟨k, hk, rfl⟩
  · rw [if_pos h, if_pos (Or.inl h)]
  · rw [if_neg (jnonneg hk)]
    by_cases hlt : k < C
    · rw [if_pos (jlt_t hlt (by omega)), if_neg (jout_n hlt (by omega))]
    · rw [if_neg (jlt_n (by omega) hk), if_pos (jout_y (by omega) hk)]
theorem S_p_hasScare {D : Nat} {w : Bool} {x : Int32} {Sc : Nat} {f : Nat → Int32} {g : Nat → Nat → Int32} {n2 : Nat → Nat → Int64} {p : Nat → Nat → Int32} {pa : Nat → Nat → Nat → Int32} {s : Nat → Nat → Int32} {sa : Nat → Nat → Nat → Int32} {sw : Bool} {rp : Value} {t : List jE} {z : Nat × Nat × Nat × (Nat → Int32)} (hS : p (jq w) 3 = Int32.ofNat Sc) (hn : Sc ≤ 6) : K_p_hasScare D w x f g n2 p pa s sa sw rp t z = some (.inl (some (.int (if jout x Sc then 0 else 1))), (jX f g n2 p pa s sa sw rp t, z)) := by
  simp only [E_p_hasScare, hS]
  rcases jcases x with h | ⟨k, hk, rfl⟩
  · rw [if_pos h, if_pos (Or.inl h)]
  · rw [if_neg (jnonneg hk)]
    by_cases hlt : k < Sc
    · rw [if_pos (jlt_t hlt (by omega)), if_neg (jout_n hlt (by omega))]
    · rw [if_neg (jlt_n (by omega) hk), if_pos (jout_y (by omega) hk)]
/-- WIND as told -/
def jwnd (q : Nat → Int32) (qa : Nat → Nat → Int32) (d : Int32) : Int32 := if d < 0 then 0 else if d < q 5 then qa 7 d.toNatClampNeg else 0
theorem S_p_windOf {D : Nat} {w : Bool} {d : Int32} {Wn : Nat} {f : Nat → Int32} {g : Nat → Nat → Int32} {n2 : Nat → Nat → Int64} {p : Nat → Nat → Int32} {pa : Nat → Nat → Nat → Int32} {s : Nat → Nat → Int32} {sa : Nat → Nat → Nat → Int32} {sw : Bool} {rp : Value} {t : List jE} {z : Nat × Nat × Nat × (Nat → Int32)} (hW : p (jq w) 5 = Int32.ofNat Wn) (hn : Wn ≤ 14) : K_p_windOf D w d f g n2 p pa s sa sw rp t z = some (.inl (some (.int (jwnd (p (jq w)) (pa (jq w)) d))), (jX f g n2 p pa s sa sw rp t, z)) := by
  simp only [E_p_windOf, jwnd]
  rcases jcases d with h | ⟨k, hk, rfl⟩
  · rw [if_pos h, if_pos h]
  · rw [if_neg (jnonneg hk), if_neg (jnonneg hk), hW]
    by_cases hlt : k < Wn
    · rw [if_pos (jlt_t hlt (by omega)), if_pos (jlt_t hlt (by omega)), if_neg (jout_n (by omega) (by omega))]
    · rw [if_neg (jlt_n (by omega) hk), if_neg (jlt_n (by omega) hk)]
/-- the first of many with this name -/
def jfnd (nm : Nat → Int32) (x : Int32) : Nat → Nat → Int32
  | _, 0 => -1
  | k, m + 1 => if nm k = x then Int32.ofNat k else jfnd nm x (k + 1) m
theorem S_p_find {D : Nat} {w : Bool} {x : Int32} {Sc : Nat} {f : Nat → Int32} {g : Nat → Nat → Int32} {n2 : Nat → Nat → Int64} {p : Nat → Nat → Int32} {pa : Nat → Nat → Nat → Int32} {s : Nat → Nat → Int32} {sa : Nat → Nat → Nat → Int32} {sw : Bool} {rp : Value} {t : List jE} {z : Nat × Nat × Nat × (Nat → Int32)} (hS : p (jq w) 3 = Int32.ofNat Sc) (hn : Sc ≤ 6) : K_p_find D w x f g n2 p pa s sa sw rp t z = some (.inl (some (.int (jfnd (pa (jq w) 1) x 0 Sc))), (jX f g n2 p pa s sa sw rp t, z)) := by
  rw [E_p_find]
  have key : ∀ m k, k + m = Sc → K_p_find_2 D w x (Int32.ofNat k) f g n2 p pa s sa sw rp t z = some (.inl (some (.int (jfnd (pa (jq w) 1) x k m))), (jX f g n2 p pa s sa sw rp t, z)) := by
    intro m
    induction m with
    | zero =>
      intro k hk
      rw [L_p_find_2, hS, if_neg (jlt_n (by omega) (by omega))]
      rfl
    | succ m ih =>
      intro k hk
      rw [L_p_find_2, hS, if_pos (jlt_t (by omega) (by omega)), if_neg (jout_n (by omega) (by omega)), jclamp (by omega), jsucc, ih (k + 1) (by omega)]
      rw [show jfnd (pa (jq w) 1) x k (m + 1) = if pa (jq w) 1 k = x then Int32.ofNat k else jfnd (pa (jq w) 1) x (k + 1) m from rfl]
      split <;> rfl
  exact key Sc 0 (by omega)
