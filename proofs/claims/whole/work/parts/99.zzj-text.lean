-- TEXT: the second halves become the first
def jhf (n : Nat) (v : Nat → Int32) : Nat → Int32 := fun i => if i < n then v (n + i) else v i
theorem jhf_up {n k : Nat} {v : Nat → Int32} (hk : k < n) : jup (fun i => if i < k then v (n + i) else v i) k (v (n + k)) = fun i => if i < k + 1 then v (n + i) else v i := by
  funext i
  by_cases h : i = k
  · subst h; rw [jup_same, if_pos (by omega)]
  · rw [jup_ne h]
    by_cases h2 : i < k
    · rw [if_pos h2, if_pos (by omega)]
    · rw [if_neg h2, if_neg (by omega)]
theorem M_half_number {D : Nat} {cx : jCX} {f : Nat → Int32} {g : Nat → Nat → Int32} {n : Nat → Nat → Int64} {b : Nat → Nat → Int32} {l : Nat → Int64} {t : List jE} {z : Nat × Nat × Nat × (Nat → Int32)} : K_m_half_number D cx f g n b l t z = some (.inl none, (jXt cx (jY f (jup g 1 (jhf 11 (g 1))) n b l t), z)) := by
  have hd : (Int32.ofNat 22) / 2 = Int32.ofNat 11 := by decide
  have key : ∀ k, k ≤ 11 → K_m_half_number_7 D (Int32.ofNat 11) 0 cx f g n b l t z = K_m_half_number_7 D (Int32.ofNat 11) (Int32.ofNat k) cx f (jup g 1 (fun i => if i < k then g 1 (11 + i) else g 1 i)) n b l t z := by
    intro k
    induction k with
    | zero =>
      intro _
      have : (fun i => if i < 0 then g 1 (11 + i) else g 1 i) = g 1 := by funext i; rw [if_neg (by omega)]
      rw [this, jup_self]; rfl
    | succ k ih =>
      intro hk
      rw [ih (by omega), L_m_half_number_7, if_pos (jlt_t (by omega) (by omega)), jofadd, if_neg (jout_n (by omega) (by omega)), if_neg (jout_n (by omega) (by omega)), jclamp (show k < 2147483648 by omega), jclamp (show 11 + k < 2147483648 by omega), jsucc, jup_same, jup_jup, if_neg (show ¬ 11 + k < k by omega), jhf_up (by omega)]
  rw [E_m_half_number, hd, key 11 (Nat.le_refl _), L_m_half_number_7, if_neg (by decide)]
  rfl
theorem M_half_cropAs {D : Nat} {cx : jCX} {f : Nat → Int32} {g : Nat → Nat → Int32} {n : Nat → Nat → Int64} {b : Nat → Nat → Int32} {l : Nat → Int64} {t : List jE} {z : Nat × Nat × Nat × (Nat → Int32)} : K_m_half_cropAs D cx f g n b l t z = some (.inl none, (jXt cx (jY f (jup g 2 (jhf 30 (g 2))) n b l t), z)) := by
  have hd : (Int32.ofNat 60) / 2 = Int32.ofNat 30 := by decide
  have key : ∀ k, k ≤ 30 → K_m_half_cropAs_7 D (Int32.ofNat 30) 0 cx f g n b l t z = K_m_half_cropAs_7 D (Int32.ofNat 30) (Int32.ofNat k) cx f (jup g 2 (fun i => if i < k then g 2 (30 + i) else g 2 i)) n b l t z := by
    intro k
    induction k with
    | zero =>
      intro _
      have : (fun i => if i < 0 then g 2 (30 + i) else g 2 i) = g 2 := by funext i; rw [if_neg (by omega)]
      rw [this, jup_self]; rfl
    | succ k ih =>
      intro hk
      rw [ih (by omega), L_m_half_cropAs_7, if_pos (jlt_t (by omega) (by omega)), jofadd, if_neg (jout_n (by omega) (by omega)), if_neg (jout_n (by omega) (by omega)), jclamp (show k < 2147483648 by omega), jclamp (show 30 + k < 2147483648 by omega), jsucc, jup_same, jup_jup, if_neg (show ¬ 30 + k < k by omega), jhf_up (by omega)]
  rw [E_m_half_cropAs, hd, key 30 (Nat.le_refl _), L_m_half_cropAs_7, if_neg (by decide)]
  rfl
theorem M_half_scareName {D : Nat} {cx : jCX} {f : Nat → Int32} {g : Nat → Nat → Int32} {n : Nat → Nat → Int64} {b : Nat → Nat → Int32} {l : Nat → Int64} {t : List jE} {z : Nat × Nat × Nat × (Nat → Int32)} : K_m_half_scareName D cx f g n b l t z = some (.inl none, (jXt cx (jY f (jup g 3 (jhf 6 (g 3))) n b l t), z)) := by
  have hd : (Int32.ofNat 12) / 2 = Int32.ofNat 6 := by decide
  have key : ∀ k, k ≤ 6 → K_m_half_scareName_7 D (Int32.ofNat 6) 0 cx f g n b l t z = K_m_half_scareName_7 D (Int32.ofNat 6) (Int32.ofNat k) cx f (jup g 3 (fun i => if i < k then g 3 (6 + i) else g 3 i)) n b l t z := by
    intro k
    induction k with
    | zero =>
      intro _
      have : (fun i => if i < 0 then g 3 (6 + i) else g 3 i) = g 3 := by funext i; rw [if_neg (by omega)]
      rw [this, jup_self]; rfl
    | succ k ih =>
      intro hk
      rw [ih (by omega), L_m_half_scareName_7, if_pos (jlt_t (by omega) (by omega)), jofadd, if_neg (jout_n (by omega) (by omega)), if_neg (jout_n (by omega) (by omega)), jclamp (show k < 2147483648 by omega), jclamp (show 6 + k < 2147483648 by omega), jsucc, jup_same, jup_jup, if_neg (show ¬ 6 + k < k by omega), jhf_up (by omega)]
  rw [E_m_half_scareName, hd, key 6 (Nat.le_refl _), L_m_half_scareName_7, if_neg (by decide)]
  rfl
theorem M_half_scareAt {D : Nat} {cx : jCX} {f : Nat → Int32} {g : Nat → Nat → Int32} {n : Nat → Nat → Int64} {b : Nat → Nat → Int32} {l : Nat → Int64} {t : List jE} {z : Nat × Nat × Nat × (Nat → Int32)} : K_m_half_scareAt D cx f g n b l t z = some (.inl none, (jXt cx (jY f (jup g 4 (jhf 6 (g 4))) n b l t), z)) := by
  have hd : (Int32.ofNat 12) / 2 = Int32.ofNat 6 := by decide
  have key : ∀ k, k ≤ 6 → K_m_half_scareAt_7 D (Int32.ofNat 6) 0 cx f g n b l t z = K_m_half_scareAt_7 D (Int32.ofNat 6) (Int32.ofNat k) cx f (jup g 4 (fun i => if i < k then g 4 (6 + i) else g 4 i)) n b l t z := by
    intro k
    induction k with
    | zero =>
      intro _
      have : (fun i => if i < 0 then g 4 (6 + i) else g 4 i) = g 4 := by funext i; rw [if_neg (by omega)]
      rw [this, jup_self]; rfl
    | succ k ih =>
      intro hk
      rw [ih (by omega), L_m_half_scareAt_7, if_pos (jlt_t (by omega) (by omega)), jofadd, if_neg (jout_n (by omega) (by omega)), if_neg (jout_n (by omega) (by omega)), jclamp (show k < 2147483648 by omega), jclamp (show 6 + k < 2147483648 by omega), jsucc, jup_same, jup_jup, if_neg (show ¬ 6 + k < k by omega), jhf_up (by omega)]
  rw [E_m_half_scareAt, hd, key 6 (Nat.le_refl _), L_m_half_scareAt_7, if_neg (by decide)]
  rfl
theorem M_half_sight {D : Nat} {cx : jCX} {f : Nat → Int32} {g : Nat → Nat → Int32} {n : Nat → Nat → Int64} {b : Nat → Nat → Int32} {l : Nat → Int64} {t : List jE} {z : Nat × Nat × Nat × (Nat → Int32)} : K_m_half_sight D cx f g n b l t z = some (.inl none, (jXt cx (jY f (jup g 5 (jhf 6 (g 5))) n b l t), z)) := by
  have hd : (Int32.ofNat 12) / 2 = Int32.ofNat 6 := by decide
  have key : ∀ k, k ≤ 6 → K_m_half_sight_7 D (Int32.ofNat 6) 0 cx f g n b l t z = K_m_half_sight_7 D (Int32.ofNat 6) (Int32.ofNat k) cx f (jup g 5 (fun i => if i < k then g 5 (6 + i) else g 5 i)) n b l t z := by
    intro k
    induction k with
    | zero =>
      intro _
      have : (fun i => if i < 0 then g 5 (6 + i) else g 5 i) = g 5 := by funext i; rw [if_neg (by omega)]
      rw [this, jup_self]; rfl
    | succ k ih =>
      intro hk
      rw [ih (by omega), L_m_half_sight_7, if_pos (jlt_t (by omega) (by omega)), jofadd, if_neg (jout_n (by omega) (by omega)), if_neg (jout_n (by omega) (by omega)), jclamp (show k < 2147483648 by omega), jclamp (show 6 + k < 2147483648 by omega), jsucc, jup_same, jup_jup, if_neg (show ¬ 6 + k < k by omega), jhf_up (by omega)]
  rw [E_m_half_sight, hd, key 6 (Nat.le_refl _), L_m_half_sight_7, if_neg (by decide)]
  rfl
theorem M_half_payAs {D : Nat} {cx : jCX} {f : Nat → Int32} {g : Nat → Nat → Int32} {n : Nat → Nat → Int64} {b : Nat → Nat → Int32} {l : Nat → Int64} {t : List jE} {z : Nat × Nat × Nat × (Nat → Int32)} : K_m_half_payAs D cx f g n b l t z = some (.inl none, (jXt cx (jY f (jup g 6 (jhf 6 (g 6))) n b l t), z)) := by
  have hd : (Int32.ofNat 12) / 2 = Int32.ofNat 6 := by decide
  have key : ∀ k, k ≤ 6 → K_m_half_payAs_7 D (Int32.ofNat 6) 0 cx f g n b l t z = K_m_half_payAs_7 D (Int32.ofNat 6) (Int32.ofNat k) cx f (jup g 6 (fun i => if i < k then g 6 (6 + i) else g 6 i)) n b l t z := by
    intro k
    induction k with
    | zero =>
      intro _
      have : (fun i => if i < 0 then g 6 (6 + i) else g 6 i) = g 6 := by funext i; rw [if_neg (by omega)]
      rw [this, jup_self]; rfl
    | succ k ih =>
      intro hk
      rw [ih (by omega), L_m_half_payAs_7, if_pos (jlt_t (by omega) (by omega)), jofadd, if_neg (jout_n (by omega) (by omega)), if_neg (jout_n (by omega) (by omega)), jclamp (show k < 2147483648 by omega), jclamp (show 6 + k < 2147483648 by omega), jsucc, jup_same, jup_jup, if_neg (show ¬ 6 + k < k by omega), jhf_up (by omega)]
  rw [E_m_half_payAs, hd, key 6 (Nat.le_refl _), L_m_half_payAs_7, if_neg (by decide)]
  rfl
theorem M_half_gradeAs {D : Nat} {cx : jCX} {f : Nat → Int32} {g : Nat → Nat → Int32} {n : Nat → Nat → Int64} {b : Nat → Nat → Int32} {l : Nat → Int64} {t : List jE} {z : Nat × Nat × Nat × (Nat → Int32)} : K_m_half_gradeAs D cx f g n b l t z = some (.inl none, (jXt cx (jY f (jup g 7 (jhf 6 (g 7))) n b l t), z)) := by
  have hd : (Int32.ofNat 12) / 2 = Int32.ofNat 6 := by decide
  have key : ∀ k, k ≤ 6 → K_m_half_gradeAs_7 D (Int32.ofNat 6) 0 cx f g n b l t z = K_m_half_gradeAs_7 D (Int32.ofNat 6) (Int32.ofNat k) cx f (jup g 7 (fun i => if i < k then g 7 (6 + i) else g 7 i)) n b l t z := by
    intro k
    induction k with
    | zero =>
      intro _
      have : (fun i => if i < 0 then g 7 (6 + i) else g 7 i) = g 7 := by funext i; rw [if_neg (by omega)]
      rw [this, jup_self]; rfl
    | succ k ih =>
      intro hk
      rw [ih (by omega), L_m_half_gradeAs_7, if_pos (jlt_t (by omega) (by omega)), jofadd, if_neg (jout_n (by omega) (by omega)), if_neg (jout_n (by omega) (by omega)), jclamp (show k < 2147483648 by omega), jclamp (show 6 + k < 2147483648 by omega), jsucc, jup_same, jup_jup, if_neg (show ¬ 6 + k < k by omega), jhf_up (by omega)]
  rw [E_m_half_gradeAs, hd, key 6 (Nat.le_refl _), L_m_half_gradeAs_7, if_neg (by decide)]
  rfl
theorem M_half_rotaAs {D : Nat} {cx : jCX} {f : Nat → Int32} {g : Nat → Nat → Int32} {n : Nat → Nat → Int64} {b : Nat → Nat → Int32} {l : Nat → Int64} {t : List jE} {z : Nat × Nat × Nat × (Nat → Int32)} : K_m_half_rotaAs D cx f g n b l t z = some (.inl none, (jXt cx (jY f (jup g 8 (jhf 6 (g 8))) n b l t), z)) := by
  have hd : (Int32.ofNat 12) / 2 = Int32.ofNat 6 := by decide
  have key : ∀ k, k ≤ 6 → K_m_half_rotaAs_7 D (Int32.ofNat 6) 0 cx f g n b l t z = K_m_half_rotaAs_7 D (Int32.ofNat 6) (Int32.ofNat k) cx f (jup g 8 (fun i => if i < k then g 8 (6 + i) else g 8 i)) n b l t z := by
    intro k
    induction k with
    | zero =>
      intro _
      have : (fun i => if i < 0 then g 8 (6 + i) else g 8 i) = g 8 := by funext i; rw [if_neg (by omega)]
      rw [this, jup_self]; rfl
    | succ k ih =>
      intro hk
      rw [ih (by omega), L_m_half_rotaAs_7, if_pos (jlt_t (by omega) (by omega)), jofadd, if_neg (jout_n (by omega) (by omega)), if_neg (jout_n (by omega) (by omega)), jclamp (show k < 2147483648 by omega), jclamp (show 6 + k < 2147483648 by omega), jsucc, jup_same, jup_jup, if_neg (show ¬ 6 + k < k by omega), jhf_up (by omega)]
  rw [E_m_half_rotaAs, hd, key 6 (Nat.le_refl _), L_m_half_rotaAs_7, if_neg (by decide)]
  rfl
theorem M_half_windAs {D : Nat} {cx : jCX} {f : Nat → Int32} {g : Nat → Nat → Int32} {n : Nat → Nat → Int64} {b : Nat → Nat → Int32} {l : Nat → Int64} {t : List jE} {z : Nat × Nat × Nat × (Nat → Int32)} : K_m_half_windAs D cx f g n b l t z = some (.inl none, (jXt cx (jY f (jup g 9 (jhf 14 (g 9))) n b l t), z)) := by
  have hd : (Int32.ofNat 28) / 2 = Int32.ofNat 14 := by decide
  have key : ∀ k, k ≤ 14 → K_m_half_windAs_7 D (Int32.ofNat 14) 0 cx f g n b l t z = K_m_half_windAs_7 D (Int32.ofNat 14) (Int32.ofNat k) cx f (jup g 9 (fun i => if i < k then g 9 (14 + i) else g 9 i)) n b l t z := by
    intro k
    induction k with
    | zero =>
      intro _
      have : (fun i => if i < 0 then g 9 (14 + i) else g 9 i) = g 9 := by funext i; rw [if_neg (by omega)]
      rw [this, jup_self]; rfl
    | succ k ih =>
      intro hk
      rw [ih (by omega), L_m_half_windAs_7, if_pos (jlt_t (by omega) (by omega)), jofadd, if_neg (jout_n (by omega) (by omega)), if_neg (jout_n (by omega) (by omega)), jclamp (show k < 2147483648 by omega), jclamp (show 14 + k < 2147483648 by omega), jsucc, jup_same, jup_jup, if_neg (show ¬ 14 + k < k by omega), jhf_up (by omega)]
  rw [E_m_half_windAs, hd, key 14 (Nat.le_refl _), L_m_half_windAs_7, if_neg (by decide)]
  rfl
theorem M_half_sumFrom {D : Nat} {cx : jCX} {f : Nat → Int32} {g : Nat → Nat → Int32} {n : Nat → Nat → Int64} {b : Nat → Nat → Int32} {l : Nat → Int64} {t : List jE} {z : Nat × Nat × Nat × (Nat → Int32)} : K_m_half_sumFrom D cx f g n b l t z = some (.inl none, (jXt cx (jY f (jup g 10 (jhf 3 (g 10))) n b l t), z)) := by
  have hd : (Int32.ofNat 6) / 2 = Int32.ofNat 3 := by decide
  have key : ∀ k, k ≤ 3 → K_m_half_sumFrom_7 D (Int32.ofNat 3) 0 cx f g n b l t z = K_m_half_sumFrom_7 D (Int32.ofNat 3) (Int32.ofNat k) cx f (jup g 10 (fun i => if i < k then g 10 (3 + i) else g 10 i)) n b l t z := by
    intro k
    induction k with
    | zero =>
      intro _
      have : (fun i => if i < 0 then g 10 (3 + i) else g 10 i) = g 10 := by funext i; rw [if_neg (by omega)]
      rw [this, jup_self]; rfl
    | succ k ih =>
      intro hk
      rw [ih (by omega), L_m_half_sumFrom_7, if_pos (jlt_t (by omega) (by omega)), jofadd, if_neg (jout_n (by omega) (by omega)), if_neg (jout_n (by omega) (by omega)), jclamp (show k < 2147483648 by omega), jclamp (show 3 + k < 2147483648 by omega), jsucc, jup_same, jup_jup, if_neg (show ¬ 3 + k < k by omega), jhf_up (by omega)]
  rw [E_m_half_sumFrom, hd, key 3 (Nat.le_refl _), L_m_half_sumFrom_7, if_neg (by decide)]
  rfl
theorem M_half_sumTo {D : Nat} {cx : jCX} {f : Nat → Int32} {g : Nat → Nat → Int32} {n : Nat → Nat → Int64} {b : Nat → Nat → Int32} {l : Nat → Int64} {t : List jE} {z : Nat × Nat × Nat × (Nat → Int32)} : K_m_half_sumTo D cx f g n b l t z = some (.inl none, (jXt cx (jY f (jup g 11 (jhf 3 (g 11))) n b l t), z)) := by
  have hd : (Int32.ofNat 6) / 2 = Int32.ofNat 3 := by decide
  have key : ∀ k, k ≤ 3 → K_m_half_sumTo_7 D (Int32.ofNat 3) 0 cx f g n b l t z = K_m_half_sumTo_7 D (Int32.ofNat 3) (Int32.ofNat k) cx f (jup g 11 (fun i => if i < k then g 11 (3 + i) else g 11 i)) n b l t z := by
    intro k
    induction k with
    | zero =>
      intro _
      have : (fun i => if i < 0 then g 11 (3 + i) else g 11 i) = g 11 := by funext i; rw [if_neg (by omega)]
      rw [this, jup_self]; rfl
    | succ k ih =>
      intro hk
      rw [ih (by omega), L_m_half_sumTo_7, if_pos (jlt_t (by omega) (by omega)), jofadd, if_neg (jout_n (by omega) (by omega)), if_neg (jout_n (by omega) (by omega)), jclamp (show k < 2147483648 by omega), jclamp (show 3 + k < 2147483648 by omega), jsucc, jup_same, jup_jup, if_neg (show ¬ 3 + k < k by omega), jhf_up (by omega)]
  rw [E_m_half_sumTo, hd, key 3 (Nat.le_refl _), L_m_half_sumTo_7, if_neg (by decide)]
  rfl
theorem M_half_knotSort {D : Nat} {cx : jCX} {f : Nat → Int32} {g : Nat → Nat → Int32} {n : Nat → Nat → Int64} {b : Nat → Nat → Int32} {l : Nat → Int64} {t : List jE} {z : Nat × Nat × Nat × (Nat → Int32)} : K_m_half_knotSort D cx f g n b l t z = some (.inl none, (jXt cx (jY f (jup g 12 (jhf 64 (g 12))) n b l t), z)) := by
  have hd : (Int32.ofNat 128) / 2 = Int32.ofNat 64 := by decide
  have key : ∀ k, k ≤ 64 → K_m_half_knotSort_7 D (Int32.ofNat 64) 0 cx f g n b l t z = K_m_half_knotSort_7 D (Int32.ofNat 64) (Int32.ofNat k) cx f (jup g 12 (fun i => if i < k then g 12 (64 + i) else g 12 i)) n b l t z := by
    intro k
    induction k with
    | zero =>
      intro _
      have : (fun i => if i < 0 then g 12 (64 + i) else g 12 i) = g 12 := by funext i; rw [if_neg (by omega)]
      rw [this, jup_self]; rfl
    | succ k ih =>
      intro hk
      rw [ih (by omega), L_m_half_knotSort_7, if_pos (jlt_t (by omega) (by omega)), jofadd, if_neg (jout_n (by omega) (by omega)), if_neg (jout_n (by omega) (by omega)), jclamp (show k < 2147483648 by omega), jclamp (show 64 + k < 2147483648 by omega), jsucc, jup_same, jup_jup, if_neg (show ¬ 64 + k < k by omega), jhf_up (by omega)]
  rw [E_m_half_knotSort, hd, key 64 (Nat.le_refl _), L_m_half_knotSort_7, if_neg (by decide)]
  rfl
theorem M_half_knotValue {D : Nat} {cx : jCX} {f : Nat → Int32} {g : Nat → Nat → Int32} {n : Nat → Nat → Int64} {b : Nat → Nat → Int32} {l : Nat → Int64} {t : List jE} {z : Nat × Nat × Nat × (Nat → Int32)} : K_m_half_knotValue D cx f g n b l t z = some (.inl none, (jXt cx (jY f (jup g 13 (jhf 64 (g 13))) n b l t), z)) := by
  have hd : (Int32.ofNat 128) / 2 = Int32.ofNat 64 := by decide
  have key : ∀ k, k ≤ 64 → K_m_half_knotValue_7 D (Int32.ofNat 64) 0 cx f g n b l t z = K_m_half_knotValue_7 D (Int32.ofNat 64) (Int32.ofNat k) cx f (jup g 13 (fun i => if i < k then g 13 (64 + i) else g 13 i)) n b l t z := by
    intro k
    induction k with
    | zero =>
      intro _
      have : (fun i => if i < 0 then g 13 (64 + i) else g 13 i) = g 13 := by funext i; rw [if_neg (by omega)]
      rw [this, jup_self]; rfl
    | succ k ih =>
      intro hk
      rw [ih (by omega), L_m_half_knotValue_7, if_pos (jlt_t (by omega) (by omega)), jofadd, if_neg (jout_n (by omega) (by omega)), if_neg (jout_n (by omega) (by omega)), jclamp (show k < 2147483648 by omega), jclamp (show 64 + k < 2147483648 by omega), jsucc, jup_same, jup_jup, if_neg (show ¬ 64 + k < k by omega), jhf_up (by omega)]
  rw [E_m_half_knotValue, hd, key 64 (Nat.le_refl _), L_m_half_knotValue_7, if_neg (by decide)]
  rfl
