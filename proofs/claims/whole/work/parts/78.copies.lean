-- COPIES of a state, on both sides
/-- the frame A holds what the frame B held -/
def jcop (A B : Nat) (g g' : Nat → Nat → Int32) : Prop :=
  (∀ k, 14 ≤ k → k < 20 → g' k A = g k B) ∧ (∀ c, c < 30 → g' 20 (30 * A + c) = g 20 (30 * B + c)) ∧ (∀ h, h < 12 → g' 21 (12 * A + h) = g 21 (12 * B + h)) ∧ (∀ k, 22 ≤ k → k ≤ 24 → ∀ i, i < 6 → g' k (6 * A + i) = g k (6 * B + i))
theorem jcop.st {A B C Sc : Nat} {S : jS} {e0 p0 c0 tw : Int32} {g g' : Nat → Nat → Int32} (h : jcop A B g g') (hC : C ≤ 30) (hS6 : Sc ≤ 6) (hs : rSt C Sc S e0 p0 c0 tw B g) : rSt C Sc S e0 p0 c0 tw A g' := by
  obtain ⟨h1, h2, h3, h4⟩ := h
  obtain ⟨a1, a2, a3, a4, a5, a6, a7, a8, a9⟩ := hs
  refine ⟨?_, ?_, ?_, ?_, ?_, ?_, ?_, ?_, ?_⟩
  · rw [h1 14 (by omega) (by omega)]; exact a1
  · rw [h1 15 (by omega) (by omega)]; exact a2
  · rw [h1 16 (by omega) (by omega)]; exact a3
  · rw [h1 17 (by omega) (by omega)]; exact a4
  · rw [h1 18 (by omega) (by omega)]; exact a5
  · rw [h1 19 (by omega) (by omega)]; exact a6
  · intro c hc; rw [h2 c (by omega)]; exact a7 c hc
  · intro x hx; rw [h3 x hx]; exact a8 x hx
  · intro i hi; rw [h4 23 (by omega) (by omega) i (by omega), h4 24 (by omega) (by omega) i (by omega), h4 22 (by omega) (by omega) i (by omega)]; exact a9 i hi
/-- an array with a stretch laid anew -/
def jlay2 (f : Nat → Int32) (w A B n : Nat) : Nat → Int32 := fun i => if w * A ≤ i ∧ i < w * A + n then f (w * B + (i - w * A)) else f i
theorem jlay2_0 {f : Nat → Int32} {w A B : Nat} : jlay2 f w A B 0 = f := by
  funext i; unfold jlay2; rw [if_neg (by omega)]
theorem jlay2_up {f : Nat → Int32} {w A B k : Nat} : jup (jlay2 f w A B k) (w * A + k) (f (w * B + k)) = jlay2 f w A B (k + 1) := by
  funext i
  unfold jlay2
  by_cases hi : i = w * A + k
  · subst hi; rw [jup_same, if_pos (by omega)]; congr 1; omega
  · rw [jup_ne hi]
    by_cases h2 : w * A ≤ i ∧ i < w * A + k
    · rw [if_pos h2, if_pos (by omega)]
    · rw [if_neg h2, if_neg (by omega)]
theorem jlay2_in {f : Nat → Int32} {w A B n k : Nat} (h : k < n) : jlay2 f w A B n (w * A + k) = f (w * B + k) := by
  unfold jlay2; rw [if_pos (by omega)]; congr 1; omega
theorem jlay2_out {f : Nat → Int32} {w A B n i : Nat} (h : i < w * A ∨ w * A + n ≤ i) : jlay2 f w A B n i = f i := by
  unfold jlay2; rw [if_neg (by omega)]
theorem jlay2_B {f : Nat → Int32} {w A B n k : Nat} (hAB : A ≠ B) (hn : n ≤ w) (hk : k < w) : jlay2 f w A B n (w * B + k) = f (w * B + k) := by
  apply jlay2_out
  rcases Nat.lt_or_gt_of_ne hAB with h | h
  · right
    have : w * A + w ≤ w * B := by
      have := Nat.mul_le_mul_left w (show A + 1 ≤ B by omega)
      rw [Nat.mul_add] at this; omega
    omega
  · left
    have : w * B + w ≤ w * A := by
      have := Nat.mul_le_mul_left w (show B + 1 ≤ A by omega)
      rw [Nat.mul_add] at this; omega
    omega
set_option maxHeartbeats 4000000 in
theorem M_copies {D A B : Nat} {cx : jCX} {f : Nat → Int32} {g : Nat → Nat → Int32} {n : Nat → Nat → Int64} {b : Nat → Nat → Int32} {l : Nat → Int64} {t : List jE} {z : Nat × Nat × Nat × (Nat → Int32)} (hA : A < 23) (hB : B < 23) (hAB : A ≠ B) : ∃ g', K_m_copies D (Int32.ofNat A) (Int32.ofNat B) cx f g n b l t z = some (.inl none, (jXt cx (jY f g' n b l t), z)) ∧ jfo A g g' ∧ jcop A B g g' := by
  have hix : ∀ w F c : Nat, Int32.ofNat w * Int32.ofNat F + Int32.ofNat c = Int32.ofNat (w * F + c) := by intro w F c; rw [jofmul, jofadd]
  have h30 : ∀ F c : Nat, (30 : Int32) * Int32.ofNat F + Int32.ofNat c = Int32.ofNat (30 * F + c) := fun F c => hix 30 F c
  have h12 : ∀ F c : Nat, (12 : Int32) * Int32.ofNat F + Int32.ofNat c = Int32.ofNat (12 * F + c) := fun F c => hix 12 F c
  have h6 : ∀ F c : Nat, (6 : Int32) * Int32.ofNat F + Int32.ofNat c = Int32.ofNat (6 * F + c) := fun F c => hix 6 F c
  have k50 : ∀ {g : Nat → Nat → Int32}, K_m_copies_50 D (Int32.ofNat A) (Int32.ofNat B) 0 cx f g n b l t z = K_m_copies_73 D (Int32.ofNat A) (Int32.ofNat B) 0 cx f (jup g 20 (jlay2 (g 20) 30 A B 30)) n b l t z := by
    intro g
    have key : ∀ k, k ≤ 30 → K_m_copies_50 D (Int32.ofNat A) (Int32.ofNat B) 0 cx f g n b l t z = K_m_copies_50 D (Int32.ofNat A) (Int32.ofNat B) (Int32.ofNat k) cx f (jup g 20 (jlay2 (g 20) 30 A B k)) n b l t z := by
      intro k
      induction k with
      | zero => intro _; rw [jlay2_0, jup_self]; rfl
      | succ k ih =>
        intro hk
        have hlt : Int32.ofNat k < 30 := jlt_t (b := 30) (by omega) (by omega)
        have hb := jlay2_B (f := g 20) (w := 30) (n := k) (k := k) hAB (by omega) (by omega)
        rw [ih (by omega), L_m_copies_50]
        simp (disch := omega) only [hlt, if_true, E_m_copies_68, h30, jout_f, jclamp, if_false, jup_same, jup_jup, jsucc, hb, jlay2_up]
    rw [key 30 (by omega), L_m_copies_50, if_neg (show ¬ Int32.ofNat 30 < 30 by decide)]
  have k73 : ∀ {g : Nat → Nat → Int32}, K_m_copies_73 D (Int32.ofNat A) (Int32.ofNat B) 0 cx f g n b l t z = K_m_copies_96 D (Int32.ofNat A) (Int32.ofNat B) 0 cx f (jup g 21 (jlay2 (g 21) 12 A B 12)) n b l t z := by
    intro g
    have key : ∀ k, k ≤ 12 → K_m_copies_73 D (Int32.ofNat A) (Int32.ofNat B) 0 cx f g n b l t z = K_m_copies_73 D (Int32.ofNat A) (Int32.ofNat B) (Int32.ofNat k) cx f (jup g 21 (jlay2 (g 21) 12 A B k)) n b l t z := by
      intro k
      induction k with
      | zero => intro _; rw [jlay2_0, jup_self]; rfl
      | succ k ih =>
        intro hk
        have hlt : Int32.ofNat k < 12 := jlt_t (b := 12) (by omega) (by omega)
        have hb := jlay2_B (f := g 21) (w := 12) (n := k) (k := k) hAB (by omega) (by omega)
        rw [ih (by omega), L_m_copies_73]
        simp (disch := omega) only [hlt, if_true, E_m_copies_91, h12, jout_f, jclamp, if_false, jup_same, jup_jup, jsucc, hb, jlay2_up]
    rw [key 12 (by omega), L_m_copies_73, if_neg (show ¬ Int32.ofNat 12 < 12 by decide)]
  have k96 : ∀ {g : Nat → Nat → Int32}, K_m_copies_96 D (Int32.ofNat A) (Int32.ofNat B) 0 cx f g n b l t z = some (.inl none, (jXt cx (jY f (jup (jup (jup g 22 (jlay2 (g 22) 6 A B 6)) 23 (jlay2 (g 23) 6 A B 6)) 24 (jlay2 (g 24) 6 A B 6)) n b l t), z)) := by
    intro g
    have key : ∀ k, k ≤ 6 → K_m_copies_96 D (Int32.ofNat A) (Int32.ofNat B) 0 cx f g n b l t z = K_m_copies_96 D (Int32.ofNat A) (Int32.ofNat B) (Int32.ofNat k) cx f (jup (jup (jup g 22 (jlay2 (g 22) 6 A B k)) 23 (jlay2 (g 23) 6 A B k)) 24 (jlay2 (g 24) 6 A B k)) n b l t z := by
      intro k
      induction k with
      | zero =>
        intro _
        have : jup (jup (jup g 22 (g 22)) 23 (g 23)) 24 (g 24) = g := by
          rw [jup_self, jup_self, jup_self]
        rw [jlay2_0, jlay2_0, jlay2_0, this]; rfl
      | succ k ih =>
        intro hk
        have hlt : Int32.ofNat k < 6 := jlt_t (b := 6) (by omega) (by omega)
        have hb2 := jlay2_B (f := g 22) (w := 6) (n := k) (k := k) hAB (by omega) (by omega)
        have hb3 := jlay2_B (f := g 23) (w := 6) (n := k) (k := k) hAB (by omega) (by omega)
        have hb4 := jlay2_B (f := g 24) (w := 6) (n := k) (k := k) hAB (by omega) (by omega)
        have hc : ∀ (a b c a' b' c' : Nat → Int32), jup (jup (jup (jup (jup (jup g 22 a) 23 b) 24 c) 22 a') 23 b') 24 c' = jup (jup (jup g 22 a') 23 b') 24 c' := by
          intro a b c a' b' c'
          funext x
          by_cases h1 : x = 24
          · subst h1; simp [jup]
          · by_cases h2 : x = 23
            · subst h2; simp [jup]
            · by_cases h3 : x = 22
              · subst h3; simp [jup]
              · simp [jup, h1, h2, h3]
        rw [ih (by omega), L_m_copies_96]
        simp (disch := omega) only [hlt, if_true, E_m_copies_114, E_m_copies_130, E_m_copies_146, h6, jout_f, jclamp, if_false, jup_same, jup_ne, jsucc, hb2, hb3, hb4, jlay2_up, hc]
    rw [key 6 (by omega), L_m_copies_96, if_neg (show ¬ Int32.ofNat 6 < 6 by decide)]
  simp (disch := omega) only [E_m_copies, E_m_copies_15, E_m_copies_23, E_m_copies_31, E_m_copies_39, E_m_copies_47, E_m_copies_68, E_m_copies_91, E_m_copies_114, E_m_copies_130, E_m_copies_146, jout_f, jclamp, if_false, k50, k73, k96, jup_ne, jup_same]
  refine ⟨_, rfl, ⟨?_, ?_, ?_, ?_, ?_⟩, ?_, ?_, ?_, ?_⟩
  · intro k hk; simp (disch := omega) only [jup_ne]
  · intro k h1 h2 i hi
    rcases (show k = 14 ∨ k = 15 ∨ k = 16 ∨ k = 17 ∨ k = 18 ∨ k = 19 by omega) with rfl | rfl | rfl | rfl | rfl | rfl <;> simp (disch := omega) only [jup_ne, jup_same]
  · intro i hi; simp (disch := omega) only [jup_ne, jup_same]; exact jlay2_out hi
  · intro i hi; simp (disch := omega) only [jup_ne, jup_same]; exact jlay2_out hi
  · intro k h1 h2 i hi
    rcases (show k = 22 ∨ k = 23 ∨ k = 24 by omega) with rfl | rfl | rfl <;> simp (disch := omega) only [jup_ne, jup_same] <;> exact jlay2_out hi
  · intro k h1 h2
    rcases (show k = 14 ∨ k = 15 ∨ k = 16 ∨ k = 17 ∨ k = 18 ∨ k = 19 by omega) with rfl | rfl | rfl | rfl | rfl | rfl <;> simp (disch := omega) only [jup_ne, jup_same]
  · intro c hc; simp (disch := omega) only [jup_ne, jup_same]; exact jlay2_in hc
  · intro c hc; simp (disch := omega) only [jup_ne, jup_same]; exact jlay2_in hc
  · intro k h1 h2 c hc
    rcases (show k = 22 ∨ k = 23 ∨ k = 24 by omega) with rfl | rfl | rfl <;> simp (disch := omega) only [jup_ne, jup_same] <;> exact jlay2_in hc
