-- THE REFERENCE's HOUR: the crows, the clock
theorem caimk_val {fe : Int32} {cr : Nat → Int32} : ∀ {k : Nat}, ((caimk fe cr k).1 = none ∧ (caimk fe cr k).2 = 0) ∨ ∃ c, (caimk fe cr k).1 = some c ∧ c < k ∧ (caimk fe cr k).2 = cr c ∧ 0 < cr c
  | 0 => Or.inl ⟨rfl, rfl⟩
  | k + 1 => by
    have hstep : caimk fe cr (k + 1) = if ((fe >>> (Int32.ofNat k &&& 31)) &&& 1) = 0 then (if (caimk fe cr k).2 < cr k then (some k, cr k) else caimk fe cr k) else caimk fe cr k := rfl
    have ih := caimk_val (fe := fe) (cr := cr) (k := k)
    have keep : ((caimk fe cr k).1 = none ∧ (caimk fe cr k).2 = 0) ∨ ∃ c, (caimk fe cr k).1 = some c ∧ c < k + 1 ∧ (caimk fe cr k).2 = cr c ∧ 0 < cr c := by
      rcases ih with h | ⟨c, h1, h2, h3, h4⟩
      · exact Or.inl h
      · exact Or.inr ⟨c, h1, by omega, h3, h4⟩
    rw [hstep]
    split
    · split
      · rename_i h1 h2
        refine Or.inr ⟨k, rfl, by omega, rfl, ?_⟩
        rcases ih with ⟨-, h⟩ | ⟨c, -, -, h, h0⟩
        · rw [h] at h2; exact h2
        · rw [h] at h2
          exact Int32.lt_trans h0 h2
      · exact keep
    · exact keep
theorem M_comes {D F : Nat} {C Sc : Nat} {tf q : Nat → Int32} {qa : Nat → Nat → Int32} {S : jS} {e0 p0 c0 : Int32} {cx : jCX} {f : Nat → Int32} {g : Nat → Nat → Int32} {n : Nat → Nat → Int64} {b : Nat → Nat → Int32} {l : Nat → Int64} {t : List jE} {z : Nat × Nat × Nat × (Nat → Int32)} (hA : rAt q qa C Sc S e0 p0 c0 F f g) (hT : rTw tf f Sc) :
    K_m_comes D (Int32.ofNat F) cx f g n b l t z = some (.inl (some (.int (jopt (caim tf S.1 S.2 C)))), (jXt cx (jY f g n b l t), z)) := by
  obtain ⟨hF, hP, hS, -, ⟨h, hh, hh12⟩, -⟩ := hA
  have hC30 : C ≤ 30 := hP.1.2.1
  obtain ⟨-, s15, -, -, -, -, s20, s21, -⟩ := hS
  have hidx : ∀ c : Nat, (30 : Int32) * Int32.ofNat F + Int32.ofNat c = Int32.ofNat (30 * F + c) := by intro c; rw [jofmullr, jofadd]
  have hidh : (12 : Int32) * Int32.ofNat F + Int32.ofNat h = Int32.ofNat (12 * F + h) := by rw [jofmullr, jofadd]
  have key : ∀ fe k, k ≤ C → ∃ d5', K_m_comes_21 D (Int32.ofNat F) fe (-1) 0 none cx f g n b l t z = K_m_comes_21 D (Int32.ofNat F) fe (jopt (caimk fe (S.2 0) k).1) (Int32.ofNat k) d5' cx f g n b l t z := by
    intro fe k
    induction k with
    | zero => intro _; exact ⟨none, rfl⟩
    | succ k ih =>
      intro hk
      obtain ⟨d5', he⟩ := ih (by omega)
      have hlt : Int32.ofNat k < Int32.ofNat C := jlt_t (by omega) (by omega)
      have hck := s20 k (by omega)
      have hstep : caimk fe (S.2 0) (k + 1) = if ((fe >>> (Int32.ofNat k &&& 31)) &&& 1) = 0 then (if (caimk fe (S.2 0) k).2 < S.2 0 k then (some k, S.2 0 k) else caimk fe (S.2 0) k) else caimk fe (S.2 0) k := rfl
      rw [he, L_m_comes_21, M_cells hP]
      simp (disch := omega) only [jbO_some, jbO_none, jbO_ite, jk_some, jk_none, E_m_comes_24, hlt, if_true, hidx, jout_f, jclamp, if_false, hck, E_m_comes_55, E_m_comes_57, jsucc]
      rw [hstep]
      by_cases hb : ((fe >>> (Int32.ofNat k &&& 31)) &&& 1) = 0
      · simp only [hb, if_true]
        rcases caimk_val (fe := fe) (cr := S.2 0) (k := k) with ⟨h1, h2⟩ | ⟨c, h1, h2, h3, h4⟩
        · rw [h1, h2]
          by_cases hp : 0 < S.2 0 k
          · simp only [hp, if_true, jopt]; exact ⟨_, rfl⟩
          · simp only [hp, if_false, h1, jopt]; exact ⟨_, rfl⟩
        · rw [h1, h3]
          have hne : ¬ Int32.ofNat c = -1 := by rw [jnot_one (by omega)]; exact fun q => q
          have hcc := s20 c (by omega)
          simp (disch := omega) only [jopt, hne, if_false, hidx, jout_f, jclamp, hcc]
          by_cases hlt2 : S.2 0 c < S.2 0 k
          · have hp : 0 < S.2 0 k := Int32.lt_trans h4 hlt2
            simp only [hlt2, hp, if_true]; exact ⟨_, rfl⟩
          · simp only [hlt2, if_false, h1]
            by_cases hp : 0 < S.2 0 k
            · simp only [hp, if_true]; exact ⟨_, rfl⟩
            · simp only [hp, if_false]; exact ⟨_, rfl⟩
      · simp only [hb, if_false]
        by_cases hp : 0 < S.2 0 k
        · simp only [hp, if_true]; exact ⟨_, rfl⟩
        · simp only [hp, if_false]; exact ⟨_, rfl⟩
  have hend : ∀ fe, K_m_comes_21 D (Int32.ofNat F) fe (-1) 0 none cx f g n b l t z = some (.inl (some (.int (jopt (caimk fe (S.2 0) C).1))), (jXt cx (jY f g n b l t), z)) := by
    intro fe
    obtain ⟨d5', he⟩ := key fe C (Nat.le_refl C)
    rw [he, L_m_comes_21, M_cells hP]
    have hlt : ¬ Int32.ofNat C < Int32.ofNat C := jlt_n (by omega) (by omega)
    simp only [jbO_some, jbO_none, jbO_ite, jk_some, jk_none, E_m_comes_24, hlt, if_false]
  unfold caim
  rw [E_m_comes]
  by_cases h19 : f 19 = 0
  · rw [if_pos h19, E_m_comes_16, hend, if_neg (hT.1.mp h19)]
  · have h16 : tf 16 = 0 := Classical.byContradiction fun q => h19 (hT.1.mpr q)
    rw [if_neg h19, if_pos h16]
    simp (disch := omega) only [s15, hh, hidh, jout_f, jclamp, if_false, E_m_comes_16, s21 h hh12, hend]
