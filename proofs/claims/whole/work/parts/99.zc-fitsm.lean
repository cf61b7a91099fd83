-- FITS: the reference's last hour; whether an hour is so
theorem jstr_stop {k7 k9 : Nat → Int32} {kn i : Nat} (h : ∀ x, x < kn → k7 x = 0 → ∃ j, j < x ∧ j < 2147483648 ∧ k9 x = Int32.ofNat j) (hi : i < kn) : ∀ m, m ≤ i + 1 → jstr k7 k9 kn (kn - 1 - i + m) i = jstr k7 k9 kn (kn - 1 - i) i := by
  intro m
  induction m with
  | zero => intro _; rfl
  | succ m ih =>
    intro hm
    rw [← ih (by omega), show kn - 1 - i + (m + 1) = (kn - 1 - i + m) + 1 by omega, jstr]
    split
    · rename_i hc
      obtain ⟨j, hj, hj3, hj2⟩ := h _ (by omega) hc.2
      rw [hj2, jclamp hj3]
      simp; omega
    · rfl
theorem jstr_all {k7 k9 : Nat → Int32} {kn i : Nat} (h : ∀ x, x < kn → k7 x = 0 → ∃ j, j < x ∧ j < 2147483648 ∧ k9 x = Int32.ofNat j) (hi : i < kn) : jstr k7 k9 kn kn i = jstr k7 k9 kn (kn - 1 - i) i := by
  have := jstr_stop h hi (i + 1) (Nat.le_refl _)
  rwa [show kn - 1 - i + (i + 1) = kn by omega] at this
theorem jagr_cut {P : Nat → Bool} {g : Nat → Nat → Int32} {cr : Nat → Int32} {x : Int32} {kn : Nat} (h : ∀ i, kn ≤ i → P i = false) : ∀ m, jagr P g cr x (kn + m) = jagr P g cr x kn
  | 0 => rfl
  | m + 1 => by rw [← Nat.add_assoc, jagr, jagr_cut h m, h (kn + m) (by omega)]; simp
theorem jmaxh_cut {P : Nat → Bool} {k8 : Nat → Int32} {kn : Nat} (h : ∀ i, kn ≤ i → P i = false) : ∀ m, jmaxh P k8 (kn + m) = jmaxh P k8 kn
  | 0 => rfl
  | m + 1 => by rw [← Nat.add_assoc, jmaxh, h (kn + m) (by omega), jmaxh_cut h m]; simp
/-- the reference's notes beside those that stand -/
def jnr (P : Nat → Bool) (G : Nat → Nat → Int32) (C kn : Nat) (g b : Nat → Nat → Int32) : Prop := ∀ i, i < kn → (P i = true ∧ b 1 i = 0 ∧ g 33 i = -1 ∧ ¬ G 7 i = 0 ∧ g 30 i = G 8 i ∧ g 31 i = G 9 i ∧ g 32 i = G 10 i ∧ (∃ c, c < C ∧ G 9 i = Int32.ofNat c) ∧ b 0 i = (if G 7 i = 2 then 1 else 0)) ∨ (P i = false ∧ (¬ b 1 i = 0 ∨ ¬ g 33 i = -1))
theorem M_fits_54 {D kn C : Nat} {x1 : Int32} {d4 : Option Value} {P : Nat → Bool} {G : Nat → Nat → Int32} {cx : jCX} {f : Nat → Int32} {g : Nat → Nat → Int32} {n : Nat → Nat → Int64} {b : Nat → Nat → Int32} {l : Nat → Int64} {t : List jE} {z : Nat × Nat × Nat × (Nat → Int32)} (hk : kn ≤ 24) (h : (f 24 = -1 ∧ f 23 = Int32.ofNat kn) ∨ (¬ f 24 = -1 ∧ f 24 = Int32.ofNat kn)) (hR : jnr P G C kn g b) :
    K_m_fits_54 D x1 0 0 d4 cx f g n b l t z = K_m_fits_82 D x1 (jmaxh P (G 8) kn) 0 0 cx f g n b l t z := by
  have key : ∀ k, k ≤ kn → K_m_fits_54 D x1 0 0 d4 cx f g n b l t z = K_m_fits_54 D x1 (jmaxh P (G 8) k) (Int32.ofNat k) d4 cx f g n b l t z := by
    intro k
    induction k with
    | zero => intro _; rfl
    | succ k ih =>
      intro hk2
      have hlt : Int32.ofNat k < Int32.ofNat kn := jlt_t (by omega) (by omega)
      have hj : ¬ jout (Int32.ofNat k) 24 := jout_n (by omega) (by omega)
      have hcl : (Int32.ofNat k).toNatClampNeg = k := jclamp (by omega)
      rw [ih (by omega), L_m_fits_54, M_known h]
      simp only [jbO_some, jbO_none, jbO_ite, jk_some, jk_none, E_m_fits_57]
      rw [if_pos hlt, if_neg hj]
      simp only [hcl]
      rcases hR k (by omega) with ⟨hp, hb, h33, -, h30, -⟩ | ⟨hp, hn⟩
      · rw [if_pos hb, if_neg hj, if_pos h33, if_neg hj, E_m_fits_76, jsucc, h30, jmaxh, if_pos hp]
      · rw [jmaxh, hp, if_neg (show ¬ (false = true) by decide)]
        by_cases hb : b 1 k = 0
        · rw [if_pos hb, if_neg hj, if_neg (hn.resolve_left (fun q => q hb)), E_m_fits_76, jsucc]
        · rw [if_neg hb, E_m_fits_76, jsucc]
  rw [key kn (Nat.le_refl kn), L_m_fits_54, M_known h]
  simp only [jbO_some, jbO_none, jbO_ite, jk_some, jk_none, E_m_fits_57]
  rw [if_neg (jlt_n (by omega) (by omega))]
theorem M_isSo {D kn C : Nat} {x : Int32} {P : Nat → Bool} {G : Nat → Nat → Int32} {cr : Nat → Int32} {cx : jCX} {f : Nat → Int32} {g : Nat → Nat → Int32} {n : Nat → Nat → Int64} {b : Nat → Nat → Int32} {l : Nat → Int64} {t : List jE} {z : Nat × Nat × Nat × (Nat → Int32)} (hk : kn ≤ 24) (hC : C ≤ 30) (h : (f 24 = -1 ∧ f 23 = Int32.ofNat kn) ∨ (¬ f 24 = -1 ∧ f 24 = Int32.ofNat kn)) (hR : jnr P G C kn g b) (hcr : ∀ c, c < C → g 20 (30 + c) = cr c) :
    K_m_isSo D x cx f g n b l t z = some (.inl (some (.int (if jagr P G cr x kn then 1 else 0))), (jXt cx (jY f g n b l t), z)) := by
  rw [E_m_isSo]
  generalize hL0 : K_m_isSo_2 D x 0 cx f g n b l t z = L0
  have key : ∀ k, k ≤ kn → (L0 = K_m_isSo_2 D x (Int32.ofNat k) cx f g n b l t z ∧ jagr P G cr x k = true) ∨ (L0 = some (.inl (some (.int 0)), (jXt cx (jY f g n b l t), z)) ∧ ∀ m, k ≤ m → jagr P G cr x m = false) := by
    intro k
    induction k with
    | zero => intro _; exact Or.inl ⟨hL0.symm, rfl⟩
    | succ k ih =>
      intro hk2
      rcases ih (by omega) with ⟨he, ha⟩ | ⟨he, ha⟩
      rotate_left
      · exact Or.inr ⟨he, fun m hm => ha m (by omega)⟩
      have hlt : Int32.ofNat k < Int32.ofNat kn := jlt_t (by omega) (by omega)
      have hj : ¬ jout (Int32.ofNat k) 24 := jout_n (by omega) (by omega)
      have hcl : (Int32.ofNat k).toNatClampNeg = k := jclamp (by omega)
      rw [L_m_isSo_2, M_known h] at he
      simp only [jbO_some, jbO_none, jbO_ite, jk_some, jk_none, E_m_isSo_5] at he
      rw [if_pos hlt, if_neg hj] at he
      simp only [hcl] at he
      have hskip : (P k && !decide (G 7 k = 0) && decide (G 8 k = x)) = false → jagr P G cr x (k + 1) = true := by
        intro q; rw [jagr, ha, q]; rfl
      rcases hR k (by omega) with ⟨hp, hb, h33, h7, h30, h31, h32, ⟨c, hc, h9⟩, hb0⟩ | ⟨hp, hn⟩
      rotate_left
      · refine Or.inl ⟨?_, hskip (by rw [hp]; rfl)⟩
        by_cases hb : b 1 k = 0
        · rw [if_pos hb, if_neg hj, if_neg (hn.resolve_left (fun q => q hb)), E_m_isSo_48, jsucc] at he; exact he
        · rw [if_neg hb, E_m_isSo_48, jsucc] at he; exact he
      rw [if_pos hb, if_neg hj, if_pos h33, if_neg hj, h30] at he
      by_cases h8 : G 8 k = x
      rotate_left
      · rw [if_neg h8, E_m_isSo_48, jsucc] at he
        exact Or.inl ⟨he, hskip (by simp [h8])⟩
      have hidx : (30 : Int32) + g 31 k = Int32.ofNat (30 + c) := by rw [h31, h9]; exact jofadd (a := 30)
      rw [if_pos h8, if_neg hj, hidx, if_neg (jout_n (by omega) (by omega)), if_neg hj, jclamp (show 30 + c < 2147483648 by omega), hcr c hc, h32] at he
      have hcc : (Int32.ofNat c).toNatClampNeg = c := jclamp (by omega)
      have hval : jagr P G cr x (k + 1) = (decide (G 7 k = 2) == !decide (cr c < G 10 k)) := by
        rw [jagr, ha, hp, h9, hcc]; simp [h7, h8]
      have hbad : (decide (G 7 k = 2) == !decide (cr c < G 10 k)) = false → ∀ m, k + 1 ≤ m → jagr P G cr x m = false := by
        intro q m hm
        induction m with
        | zero => omega
        | succ m ihm =>
          by_cases hmk : m = k
          · rw [hmk, hval]; exact q
          · rw [jagr, ihm (by omega)]; rfl
      by_cases hlt2 : cr c < G 10 k <;> by_cases hk2 : G 7 k = 2
      · simp +decide only [hlt2, if_true, E_m_isSo_41, if_neg hj, hcl, hb0, hk2, if_false] at he
        exact Or.inr ⟨he, hbad (by simp [hlt2, hk2])⟩
      · simp +decide only [hlt2, if_true, E_m_isSo_41, if_neg hj, hcl, hb0, hk2, if_false, E_m_isSo_48, jsucc] at he
        exact Or.inl ⟨he, by rw [hval]; simp [hlt2, hk2]⟩
      · simp +decide only [hlt2, if_true, E_m_isSo_41, if_neg hj, hcl, hb0, hk2, if_false, E_m_isSo_48, jsucc] at he
        exact Or.inl ⟨he, by rw [hval]; simp [hlt2, hk2]⟩
      · simp +decide only [hlt2, if_true, E_m_isSo_41, if_neg hj, hcl, hb0, hk2, if_false] at he
        exact Or.inr ⟨he, hbad (by simp [hlt2, hk2])⟩
  rcases key kn (Nat.le_refl kn) with ⟨he, ha⟩ | ⟨he, ha⟩
  · rw [he, L_m_isSo_2, M_known h]
    simp only [jbO_some, jbO_none, jbO_ite, jk_some, jk_none, E_m_isSo_5]
    rw [if_neg (jlt_n (by omega) (by omega)), if_pos ha]
  · rw [he, if_neg (by rw [ha kn (Nat.le_refl kn)]; decide)]
