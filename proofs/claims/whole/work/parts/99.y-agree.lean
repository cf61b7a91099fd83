-- NOTES: the last hour, what agrees: the class
def jmaxh (P : Nat → Bool) (k8 : Nat → Int32) : Nat → Int32
  | 0 => 0
  | i + 1 => if P i then (if jmaxh P k8 i < k8 i then k8 i else jmaxh P k8 i) else jmaxh P k8 i
theorem S_n_lastHours {D nn : Nat} {x1 : Int32} {P : Nat → Bool} {f : Nat → Int32} {g : Nat → Nat → Int32} {n2 : Nat → Nat → Int64} {p : Nat → Nat → Int32} {pa : Nat → Nat → Nat → Int32} {s : Nat → Nat → Int32} {sa : Nat → Nat → Nat → Int32} {sw : Bool} {rp : Value} {t : List jE} {z : Nat × Nat × Nat × (Nat → Int32)} (hn : nn ≤ 24) (h24 : f 24 = Int32.ofNat nn) (hP : ∀ i, i < 32 → bt x1 i = P i) : K_n_lastHours D x1 f g n2 p pa s sa sw rp t z = some (.inl (some (.int (jmaxh P (g 8) nn))), (jX f g n2 p pa s sa sw rp t, z)) := by
  rw [E_n_lastHours]
  have key : ∀ k, k ≤ nn → K_n_lastHours_4 D x1 0 0 f g n2 p pa s sa sw rp t z = K_n_lastHours_4 D x1 (jmaxh P (g 8) k) (Int32.ofNat k) f g n2 p pa s sa sw rp t z := by
    intro k
    induction k with
    | zero => intro _; rfl
    | succ k ih =>
      intro hk
      have hlt : Int32.ofNat k < Int32.ofNat nn := jlt_t (by omega) (by omega)
      have hb := jbit0 (x := x1) (show k < 32 by omega)
      rw [ih (by omega), L_n_lastHours_4, h24, if_pos hlt]
      by_cases hp : P k = true
      · rw [if_neg (fun q => by have := hb.mp q; rw [hP k (by omega), hp] at this; exact absurd this (by decide)), if_neg (jout_n (by omega) (by omega)), jclamp (by omega), E_n_lastHours_22, jsucc, jmaxh, if_pos hp]
      · rw [if_pos (hb.mpr (by rw [hP k (by omega)]; simpa using hp)), E_n_lastHours_22, jsucc, jmaxh, if_neg hp]
  rw [key nn (Nat.le_refl nn), L_n_lastHours_4, h24, if_neg (jlt_n (by omega) (by omega))]
/-- whether what the first n notes say of an hour is so -/
def jagr (P : Nat → Bool) (g : Nat → Nat → Int32) (cr : Nat → Int32) (x2 : Int32) : Nat → Bool
  | 0 => true
  | i + 1 => jagr P g cr x2 i && (!(P i && !decide (g 7 i = 0) && decide (g 8 i = x2)) || (decide (g 7 i = 2) == !decide (cr (g 9 i).toNatClampNeg < g 10 i)))
theorem S_n_agree {D j nn : Nat} {x1 x2 : Int32} {P : Nat → Bool} {f : Nat → Int32} {g : Nat → Nat → Int32} {n2 : Nat → Nat → Int64} {p : Nat → Nat → Int32} {pa : Nat → Nat → Nat → Int32} {s : Nat → Nat → Int32} {sa : Nat → Nat → Nat → Int32} {sw : Bool} {rp : Value} {t : List jE} {z : Nat × Nat × Nat × (Nat → Int32)} (hj : j < 3) (hn : nn ≤ 24) (h24 : f 24 = Int32.ofNat nn) (hP : ∀ i, i < 32 → bt x1 i = P i) (h9 : ∀ i, i < nn → ¬ g 7 i = 0 → ∃ c, c < 30 ∧ g 9 i = Int32.ofNat c) : K_n_agree D j x1 x2 f g n2 p pa s sa sw rp t z = some (.inl (some (.int (if jagr P g (sa j 0) x2 nn then 1 else 0))), (jX f g n2 p pa s sa sw rp t, z)) := by
  rw [E_n_agree hj]
  generalize hL0 : K_n_agree_2 D j x1 x2 0 none f g n2 p pa s sa sw rp t z = L0
  have key : ∀ k, k ≤ nn → (∃ d5, L0 = K_n_agree_2 D j x1 x2 (Int32.ofNat k) d5 f g n2 p pa s sa sw rp t z ∧ jagr P g (sa j 0) x2 k = true) ∨ (L0 = some (.inl (some (.int 0)), (jX f g n2 p pa s sa sw rp t, z)) ∧ ∀ m, k ≤ m → jagr P g (sa j 0) x2 m = false) := by
    intro k
    induction k with
    | zero => intro _; exact Or.inl ⟨none, hL0.symm, rfl⟩
    | succ k ih =>
      intro hk
      rcases ih (by omega) with ⟨d5, he, ha⟩ | ⟨he, ha⟩
      rotate_left
      · exact Or.inr ⟨he, fun m hm => ha m (by omega)⟩
      have hlt : Int32.ofNat k < Int32.ofNat nn := jlt_t (by omega) (by omega)
      have hb := jbit0 (x := x1) (show k < 32 by omega)
      have hjo : ¬ jout (Int32.ofNat k) 24 := jout_n (by omega) (by omega)
      have hcl : (Int32.ofNat k).toNatClampNeg = k := jclamp (by omega)
      have hskip : (P k && !decide (g 7 k = 0) && decide (g 8 k = x2)) = false → jagr P g (sa j 0) x2 (k + 1) = true := by
        intro q; rw [jagr, ha, q]; rfl
      have hgo : K_n_agree_26 D j x1 x2 (Int32.ofNat k) d5 0 f g n2 p pa s sa sw rp t z = K_n_agree_2 D j x1 x2 (Int32.ofNat (k + 1)) (some (.int 0)) f g n2 p pa s sa sw rp t z := by
        rw [E_n_agree_26 hj, if_pos rfl, E_n_agree_56 hj, jsucc]
      rw [L_n_agree_2 hj, h24, if_pos hlt] at he
      by_cases hp : P k = true
      rotate_left
      · have hp' : P k = false := by simpa using hp
        rw [if_pos (hb.mpr (by rw [hP k (by omega)]; exact hp')), E_n_agree_25 hj, hgo] at he
        exact Or.inl ⟨_, he, hskip (by rw [hp']; rfl)⟩
      rw [if_neg (fun q => by have := hb.mp q; rw [hP k (by omega), hp] at this; exact absurd this (by decide)), if_neg hjo] at he
      simp only [hcl] at he
      by_cases h7 : g 7 k = 0
      · rw [if_pos h7, E_n_agree_25 hj, hgo] at he
        exact Or.inl ⟨_, he, hskip (by simp [h7])⟩
      rw [if_neg h7, if_neg hjo] at he
      by_cases h8 : g 8 k = x2
      rotate_left
      · rw [if_neg h8, E_n_agree_25 hj, hgo] at he
        exact Or.inl ⟨_, he, hskip (by simp [h8])⟩
      obtain ⟨c, hc30, hc9⟩ := h9 k (by omega) h7
      have hcc : (Int32.ofNat c).toNatClampNeg = c := jclamp (by omega)
      rw [if_pos h8, E_n_agree_26 hj, if_neg (by decide), if_neg hjo] at he
      simp only [hcl, hc9, hcc] at he
      rw [if_neg (jout_n hc30 (by omega)), if_neg hjo] at he
      have hval : jagr P g (sa j 0) x2 (k + 1) = (decide (g 7 k = 2) == !decide (sa j 0 c < g 10 k)) := by
        rw [jagr, ha, hp, hc9, hcc]; simp [h7, h8]
      have hbad : (decide (g 7 k = 2) == !decide (sa j 0 c < g 10 k)) = false → ∀ m, k + 1 ≤ m → jagr P g (sa j 0) x2 m = false := by
        intro q m hm
        induction m with
        | zero => omega
        | succ m ihm =>
          by_cases hmk : m = k
          · rw [hmk, hval]; exact q
          · rw [jagr, ihm (by omega)]; rfl
      by_cases hlt2 : sa j 0 c < g 10 k <;> by_cases hk2 : g 7 k = 2
      · simp +decide only [hlt2, if_true, E_n_agree_44 hj, if_neg hjo, hcl, hk2, E_n_agree_53 hj, if_false] at he
        exact Or.inr ⟨he, hbad (by simp [hlt2, hk2])⟩
      · simp +decide only [hlt2, if_true, E_n_agree_44 hj, if_neg hjo, hcl, hk2, E_n_agree_53 hj, if_false, E_n_agree_56 hj, jsucc] at he
        exact Or.inl ⟨_, he, by rw [hval]; simp [hlt2, hk2]⟩
      · simp +decide only [hlt2, if_true, E_n_agree_44 hj, if_neg hjo, hcl, hk2, E_n_agree_53 hj, if_false, E_n_agree_56 hj, jsucc] at he
        exact Or.inl ⟨_, he, by rw [hval]; simp [hlt2, hk2]⟩
      · simp +decide only [hlt2, if_true, E_n_agree_44 hj, if_neg hjo, hcl, hk2, E_n_agree_53 hj, if_false] at he
        exact Or.inr ⟨he, hbad (by simp [hlt2, hk2])⟩
  rcases key nn (Nat.le_refl nn) with ⟨d5, he, ha⟩ | ⟨he, ha⟩
  · rw [he, L_n_agree_2 hj, h24, if_neg (jlt_n (by omega) (by omega)), if_pos ha]
  · rw [he, if_neg (by rw [ha nn (Nat.le_refl nn)]; decide)]
