-- FITS: the reference's marks
theorem M_known {D kn : Nat} {cx : jCX} {f : Nat → Int32} {g : Nat → Nat → Int32} {n : Nat → Nat → Int64} {b : Nat → Nat → Int32} {l : Nat → Int64} {t : List jE} {z : Nat × Nat × Nat × (Nat → Int32)} (h : (f 24 = -1 ∧ f 23 = Int32.ofNat kn) ∨ (¬ f 24 = -1 ∧ f 24 = Int32.ofNat kn)) : K_m_knownMany D cx f g n b l t z = some (.inl (some (.int (Int32.ofNat kn))), (jXt cx (jY f g n b l t), z)) := by
  rw [E_m_knownMany]
  rcases h with ⟨h1, h2⟩ | ⟨h1, h2⟩
  · rw [if_pos h1, h2]
  · rw [if_neg h1, h2]
theorem M_fits_13 {D kn : Nat} {x1 x2 : Int32} {d4 : Option Value} {cx : jCX} {f : Nat → Int32} {g : Nat → Nat → Int32} {n : Nat → Nat → Int64} {b : Nat → Nat → Int32} {l : Nat → Int64} {t : List jE} {z : Nat × Nat × Nat × (Nat → Int32)} (hk : kn ≤ 24) (h : (f 24 = -1 ∧ f 23 = Int32.ofNat kn) ∨ (¬ f 24 = -1 ∧ f 24 = Int32.ofNat kn)) :
    ∃ v, K_m_fits_13 D x1 x2 0 d4 cx f g n b l t z = K_m_fits_29 D x1 x2 (Int32.ofNat kn - 1) d4 cx f g n (jup b 1 v) l t z ∧ ∀ i, i < kn → v i = 0 := by
  have key : ∀ k, k ≤ kn → ∃ v, K_m_fits_13 D x1 x2 0 d4 cx f g n b l t z = K_m_fits_13 D x1 x2 (Int32.ofNat k) d4 cx f g n (jup b 1 v) l t z ∧ ∀ i, i < k → v i = 0 := by
    intro k
    induction k with
    | zero => intro _; exact ⟨b 1, by rw [jup_self]; rfl, fun i hi => absurd hi (Nat.not_lt_zero i)⟩
    | succ k ih =>
      intro hk2
      obtain ⟨v, he, hv⟩ := ih (by omega)
      have hlt : Int32.ofNat k < Int32.ofNat kn := jlt_t (by omega) (by omega)
      refine ⟨jup v k (jbool 0), ?_, ?_⟩
      · rw [he, L_m_fits_13, M_known h]
        simp (disch := omega) only [jbO_some, jbO_none, jbO_ite, jk_some, jk_none, E_m_fits_16, hlt, if_true, jout_f, if_false, jclamp, jup_same, jup_jup, jsucc]
      · intro i hi
        by_cases hik : i = k
        · subst hik; rw [jup_same]; decide
        · rw [jup_ne hik]; exact hv i (by omega)
  obtain ⟨v, he, hv⟩ := key kn (Nat.le_refl kn)
  refine ⟨v, ?_, hv⟩
  rw [he, L_m_fits_13, M_known h]
  simp only [jbO_some, jbO_none, jbO_ite, jk_some, jk_none, E_m_fits_16, show ¬ (Int32.ofNat kn < Int32.ofNat kn) from jlt_n (by omega) (by omega), if_false]
  rw [M_known h]
  simp only [jbO_some, jbO_none, jbO_ite, jk_some, jk_none, E_m_fits_26]
