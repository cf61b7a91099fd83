-- FITS: the reference's marks, struck notes
theorem M_fits_29 {D kn : Nat} {x1 x2 : Int32} {d4 : Option Value} {k7 k9 v0 : Nat → Int32} {cx : jCX} {f : Nat → Int32} {g : Nat → Nat → Int32} {n : Nat → Nat → Int64} {b : Nat → Nat → Int32} {l : Nat → Int64} {t : List jE} {z : Nat × Nat × Nat × (Nat → Int32)} (hk : kn ≤ 24) (hv0 : ∀ i, i < kn → v0 i = 0)
    (h33 : ∀ i, i < kn → (k7 i = 0 ∧ g 33 i = k9 i ∧ ∃ j, j < i ∧ k9 i = Int32.ofNat j) ∨ (¬ k7 i = 0 ∧ g 33 i = -1)) :
    ∃ v, K_m_fits_29 D x1 x2 (Int32.ofNat kn - 1) d4 cx f g n (jup b 1 v0) l t z = K_m_fits_54 D x1 x2 0 d4 cx f g n (jup b 1 v) l t z ∧ ∀ i, i < kn → v i = if jstr k7 k9 kn kn i then 1 else 0 := by
  have em : ∀ m, m < kn → Int32.ofNat (kn - m) - 1 = Int32.ofNat (kn - 1 - m) := by
    intro m hm
    rw [show (1 : Int32) = Int32.ofNat 1 from rfl, ← Int32.ofNat_sub _ _ (by omega)]
    congr 1; omega
  generalize hL0 : K_m_fits_29 D x1 x2 (Int32.ofNat kn - 1) d4 cx f g n (jup b 1 v0) l t z = L0
  have key : ∀ m, m ≤ kn → ∃ v, L0 = K_m_fits_29 D x1 x2 (Int32.ofNat (kn - m) - 1) d4 cx f g n (jup b 1 v) l t z ∧ ∀ i, i < kn → v i = if jstr k7 k9 kn m i then 1 else 0 := by
    intro m
    induction m with
    | zero => intro _; exact ⟨v0, hL0.symm, fun i hi => by rw [hv0 i hi]; rfl⟩
    | succ m ih =>
      intro hm
      obtain ⟨v, he, hv⟩ := ih (by omega)
      have hi : kn - 1 - m < kn := by omega
      have hj : ¬ jout (Int32.ofNat (kn - 1 - m)) 24 := jout_n (by omega) (by omega)
      have hcl : (Int32.ofNat (kn - 1 - m)).toNatClampNeg = kn - 1 - m := jclamp (by omega)
      have hnext : Int32.ofNat (kn - 1 - m) + (-1) = Int32.ofNat (kn - (m + 1)) - 1 := by
        rw [show kn - 1 - m = kn - (m + 1) by omega, Int32.sub_eq_add_neg]
      have hvi := hv (kn - 1 - m) hi
      rw [em m (by omega), L_m_fits_29, if_neg (jnonneg (by omega)), if_neg hj] at he
      simp only [hcl, jup_same] at he
      by_cases hst : jstr k7 k9 kn m (kn - 1 - m) = true
      · rw [if_pos hst] at hvi
        rw [if_neg (by rw [hvi]; decide), E_m_fits_50, hnext] at he
        refine ⟨v, he, fun i hi2 => ?_⟩
        have hj1 : jstr k7 k9 kn (m + 1) = jstr k7 k9 kn m := by rw [jstr, if_neg (fun q => by rw [hst] at q; exact absurd q.1 (by decide))]
        rw [hv i hi2, hj1]
      · have hst' : jstr k7 k9 kn m (kn - 1 - m) = false := by simpa using hst
        rw [if_neg hst] at hvi
        rw [if_pos hvi, if_neg hj] at he
        rcases h33 (kn - 1 - m) hi with ⟨q7, q33, j, hj1, hj2⟩ | ⟨q7, q33⟩
        · have hne : ¬ g 33 (kn - 1 - m) = -1 := by rw [q33, hj2, jnot_one (by omega)]; exact fun q => q
          have hcj : (Int32.ofNat j).toNatClampNeg = j := jclamp (by omega)
          rw [if_neg hne, if_neg hj] at he
          simp only [q33, hj2, hcj] at he
          rw [if_neg (jout_n (by omega) (by omega)), E_m_fits_50, hnext, jup_jup] at he
          refine ⟨jup v j (jbool 1), he, fun i hi2 => ?_⟩
          have hj3 : jstr k7 k9 kn (m + 1) = fun x => jstr k7 k9 kn m x || decide (x = j) := by rw [jstr, if_pos ⟨hst', q7⟩, hj2, hcj]
          rw [hj3]
          dsimp only
          by_cases hij : i = j
          · subst hij; rw [jup_same]; simp; decide
          · rw [jup_ne hij, hv i hi2]; simp [hij]
        · rw [if_pos q33, E_m_fits_50, hnext] at he
          refine ⟨v, he, fun i hi2 => ?_⟩
          have hj1 : jstr k7 k9 kn (m + 1) = jstr k7 k9 kn m := by rw [jstr, if_neg (fun q => q7 q.2)]
          rw [hv i hi2, hj1]
  obtain ⟨v, he, hv⟩ := key kn (Nat.le_refl kn)
  refine ⟨v, ?_, hv⟩
  rw [he, L_m_fits_29, Nat.sub_self, if_pos (by decide)]
