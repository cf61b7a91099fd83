-- THE REFERENCE BESIDE THE CLASS: what stands for a plan, a state, a trial; looking, eating, paying, flapping
/-- a law of the reference as the class has it -/
def rLaw (n : Nat) (kd vl : Nat → Int32) (g : Nat → Nat → Int32) (r : Nat) : Prop :=
  ∃ a, g 10 r = Int32.ofNat a ∧ g 11 r = Int32.ofNat (a + n) ∧ a + n ≤ 64 ∧ ∀ k, k < n → jtr (kd k) (vl k) (g 12 (a + k)) (g 13 (a + k))
/-- the plan of the reference is that of the class -/
def rPl (q : Nat → Int32) (qa : Nat → Nat → Int32) (C Sc : Nat) (g : Nat → Nat → Int32) : Prop :=
  jPl q qa C Sc ∧ (g 1 0 = q 1 ∧ g 1 1 = q 2 ∧ g 1 2 = q 3 ∧ g 1 3 = q 4 ∧ g 1 4 = q 6 ∧ g 1 5 = q 7 ∧ g 1 6 = q 5 ∧ g 1 7 = q 8 ∧ g 1 9 = q 9) ∧
  (∀ c, c < C → (if 0 < g 2 c then g 2 c - 1 else 10) = qa 0 c) ∧
  (∀ i, i < Sc → g 3 i = qa 1 i ∧ g 4 i = qa 2 i ∧ g 5 i = qa 3 i ∧ g 6 i = qa 4 i ∧ g 7 i = qa 5 i ∧ g 8 i = qa 6 i) ∧
  (∀ d, d < (q 5).toNatClampNeg → g 9 d = qa 7 d) ∧
  rLaw (q 10).toNatClampNeg (qa 8) (qa 9) g 0 ∧ rLaw (q 11).toNatClampNeg (qa 10) (qa 11) g 1 ∧ rLaw (q 12).toNatClampNeg (qa 12) (qa 13) g 2
theorem rPl_congr {q : Nat → Int32} {qa : Nat → Nat → Int32} {C Sc : Nat} {g g' : Nat → Nat → Int32} (h : rPl q qa C Sc g) (hg : ∀ k, k < 14 → g' k = g k) : rPl q qa C Sc g' := by
  unfold rPl rLaw at h ⊢
  rw [hg 1 (by omega), hg 2 (by omega), hg 3 (by omega), hg 4 (by omega), hg 5 (by omega), hg 6 (by omega), hg 7 (by omega), hg 8 (by omega), hg 9 (by omega), hg 10 (by omega), hg 11 (by omega), hg 12 (by omega), hg 13 (by omega)]
  exact h
/-- what is tried is the same on both sides (tf: the class's, f: the reference's) -/
def rTw (tf f : Nat → Int32) (Sc : Nat) : Prop :=
  (f 19 = 0 ↔ ¬ tf 16 = 0) ∧ (∀ i, i < Sc → (((tf 17 >>> (Int32.ofNat i &&& 31)) &&& 1) = 0 ↔ ¬ (f 19 = 2 ∧ f 20 = Int32.ofNat i))) ∧ (if f 19 = 3 then 1 else 0) = tf 18 ∧ (f 19 = 4 ↔ ¬ tf 19 = 0) ∧ (f 19 = 5 ↔ ¬ tf 20 = 0)
/-- WIND of a day, as the reference asks it -/
def mwnd (f : Nat → Int32) (g : Nat → Nat → Int32) (d : Int32) : Int32 :=
  if f 16 = -1 then (if d < g 1 6 then g 9 d.toNatClampNeg else 0)
  else if f 16 < d then (if d - f 16 < 10 then g 25 (d - f 16).toNatClampNeg else (if d < g 1 6 then g 9 d.toNatClampNeg else 0)) else (if d < g 1 6 then g 9 d.toNatClampNeg else 0)
/-- a frame of the reference is a state of the class (e0, p0, c0: what was eaten, spent, scared ahead; tw: what is tried) -/
def rSt (C Sc : Nat) (S : jS) (e0 p0 c0 tw : Int32) (F : Nat) (g : Nat → Nat → Int32) : Prop :=
  g 14 F = S.1 0 ∧ g 15 F = S.1 1 ∧ g 16 F = e0 + S.1 3 ∧ g 17 F = p0 + S.1 4 ∧ g 18 F = c0 + S.1 5 ∧
  (∀ i, i < Sc → ((tw = 1 ∨ ((g 19 F >>> (Int32.ofNat i &&& 31)) &&& 1) = 1) ↔ ¬ ((S.1 2 >>> (Int32.ofNat i &&& 31)) &&& 1) = 0)) ∧
  (∀ c, c < C → g 20 (30 * F + c) = S.2 0 c) ∧ (∀ h, h < 12 → g 21 (12 * F + h) = S.2 1 h) ∧
  (∀ i, i < Sc → g 23 (6 * F + i) = S.2 2 i ∧ g 24 (6 * F + i) = S.2 3 i ∧ g 22 (6 * F + i) = S.2 4 i)
/-- nothing but the frame F has changed -/
def jfo (F : Nat) (g g' : Nat → Nat → Int32) : Prop :=
  (∀ k, k < 14 ∨ 25 ≤ k → g' k = g k) ∧ (∀ k, 14 ≤ k → k < 20 → ∀ i, i ≠ F → g' k i = g k i) ∧ (∀ i, i < 30 * F ∨ 30 * F + 30 ≤ i → g' 20 i = g 20 i) ∧
  (∀ i, i < 12 * F ∨ 12 * F + 12 ≤ i → g' 21 i = g 21 i) ∧ (∀ k, 22 ≤ k → k ≤ 24 → ∀ i, i < 6 * F ∨ 6 * F + 6 ≤ i → g' k i = g k i)
theorem jfo.rf {F : Nat} {g : Nat → Nat → Int32} : jfo F g g := ⟨fun _ _ => rfl, fun _ _ _ _ _ => rfl, fun _ _ => rfl, fun _ _ => rfl, fun _ _ _ _ _ => rfl⟩
theorem jfo.tr {F : Nat} {g g' g'' : Nat → Nat → Int32} (h1 : jfo F g g') (h2 : jfo F g' g'') : jfo F g g'' :=
  ⟨fun k hk => (h2.1 k hk).trans (h1.1 k hk), fun k a b i c => (h2.2.1 k a b i c).trans (h1.2.1 k a b i c), fun i h => (h2.2.2.1 i h).trans (h1.2.2.1 i h), fun i h => (h2.2.2.2.1 i h).trans (h1.2.2.2.1 i h), fun k a b i c => (h2.2.2.2.2 k a b i c).trans (h1.2.2.2.2 k a b i c)⟩
theorem jfo.pl {F C Sc : Nat} {q : Nat → Int32} {qa : Nat → Nat → Int32} {g g' : Nat → Nat → Int32} (h : jfo F g g') (hp : rPl q qa C Sc g) : rPl q qa C Sc g' := rPl_congr hp (fun k hk => h.1 k (Or.inl hk))
theorem jfo.st {F F' C Sc : Nat} {S : jS} {e0 p0 c0 tw : Int32} {g g' : Nat → Nat → Int32} (h : jfo F g g') (hF : F' ≠ F) (hC : C ≤ 30) (hS : Sc ≤ 6) (hp : rSt C Sc S e0 p0 c0 tw F' g) : rSt C Sc S e0 p0 c0 tw F' g' := by
  obtain ⟨h1, h2, h3, h4, h5⟩ := h
  obtain ⟨a1, a2, a3, a4, a5, a6, a7, a8, a9⟩ := hp
  refine ⟨?_, ?_, ?_, ?_, ?_, ?_, ?_, ?_, ?_⟩
  · rw [h2 14 (by omega) (by omega) F' hF]; exact a1
  · rw [h2 15 (by omega) (by omega) F' hF]; exact a2
  · rw [h2 16 (by omega) (by omega) F' hF]; exact a3
  · rw [h2 17 (by omega) (by omega) F' hF]; exact a4
  · rw [h2 18 (by omega) (by omega) F' hF]; exact a5
  · rw [h2 19 (by omega) (by omega) F' hF]; exact a6
  · intro c hc; rw [h3 _ (by omega)]; exact a7 c hc
  · intro x hx; rw [h4 _ (by omega)]; exact a8 x hx
  · intro i hi; rw [h5 23 (by omega) (by omega) _ (by omega), h5 24 (by omega) (by omega) _ (by omega), h5 22 (by omega) (by omega) _ (by omega)]; exact a9 i hi
theorem M_windOf {D dn Wn : Nat} {cx : jCX} {f : Nat → Int32} {g : Nat → Nat → Int32} {n : Nat → Nat → Int64} {b : Nat → Nat → Int32} {l : Nat → Int64} {t : List jE} {z : Nat × Nat × Nat × (Nat → Int32)} (hW : g 1 6 = Int32.ofNat Wn) (hn : Wn ≤ 14) (hd : dn < 2147483648) (hfr : f 16 = -1 ∨ ∃ m, m < 2147483648 ∧ f 16 = Int32.ofNat m) : K_m_windOf D (Int32.ofNat dn) cx f g n b l t z = some (.inl (some (.int (mwnd f g (Int32.ofNat dn)))), (jXt cx (jY f g n b l t), z)) := by
  have h22 : K_m_windOf_22 D (Int32.ofNat dn) cx f g n b l t z = some (.inl (some (.int (if Int32.ofNat dn < g 1 6 then g 9 (Int32.ofNat dn).toNatClampNeg else 0))), (jXt cx (jY f g n b l t), z)) := by
    rw [E_m_windOf_22, hW]
    by_cases hlt : dn < Wn
    · rw [if_pos (jlt_t hlt (by omega)), if_pos (jlt_t hlt (by omega)), if_neg (jout_n (by omega) (by omega))]
    · rw [if_neg (jlt_n (by omega) hd), if_neg (jlt_n (by omega) hd)]
  simp only [E_m_windOf, h22, mwnd]
  by_cases h1 : f 16 = -1
  · rw [if_pos h1, if_pos h1]
  · rw [if_neg h1, if_neg h1]
    by_cases h2 : f 16 < Int32.ofNat dn
    · rw [if_pos h2, if_pos h2]
      by_cases h3 : Int32.ofNat dn - f 16 < 10
      · rw [if_pos h3, if_pos h3]
        obtain ⟨m, hm, hfm⟩ := hfr.resolve_left h1
        rw [hfm] at h2 h3 ⊢
        rw [jltn hm hd] at h2
        rw [← Int32.ofNat_sub dn m (by omega)] at h3 ⊢
        rw [jltl (by omega) (by decide)] at h3
        have h4 : dn - m < 10 := h3
        rw [if_neg (jout_n h4 (by omega))]
      · rw [if_neg h3, if_neg h3]
    · rw [if_neg h2, if_neg h2]
theorem M_sightOf {D i : Nat} {cx : jCX} {f : Nat → Int32} {g : Nat → Nat → Int32} {n : Nat → Nat → Int64} {b : Nat → Nat → Int32} {l : Nat → Int64} {t : List jE} {z : Nat × Nat × Nat × (Nat → Int32)} (hi : i < 12) : K_m_sightOf D (Int32.ofNat i) cx f g n b l t z = some (.inl (some (.int (g 5 i + (if f 19 = 3 then 1 else 0)))), (jXt cx (jY f g n b l t), z)) := by
  simp (disch := omega) only [E_m_sightOf, E_m_sightOf_11, jout_f, jclamp, if_false]
  split <;> rfl
theorem M_farOf {D : Nat} {x y : Int32} {cx : jCX} {f : Nat → Int32} {g : Nat → Nat → Int32} {n : Nat → Nat → Int64} {b : Nat → Nat → Int32} {l : Nat → Int64} {t : List jE} {z : Nat × Nat × Nat × (Nat → Int32)} (h0 : ¬ g 1 0 = 0) : K_m_farOf D x y cx f g n b l t z = some (.inl (some (.int (jdist (g 1 0) x y))), (jXt cx (jY f g n b l t), z)) := by
  simp only [E_m_farOf, h0, if_false, jdist, jabs]
theorem M_calls {D F dn Wn : Nat} {a1 a2 a3 a4 : Int32} {cx : jCX} {f : Nat → Int32} {g : Nat → Nat → Int32} {n : Nat → Nat → Int64} {b : Nat → Nat → Int32} {l : Nat → Int64} {t : List jE} {z : Nat × Nat × Nat × (Nat → Int32)} (hF : F < 23) (hW : g 1 6 = Int32.ofNat Wn) (hn : Wn ≤ 14) (hd : g 14 F = Int32.ofNat dn) (hdn : dn < 2147483648) (hfr : f 16 = -1 ∨ ∃ m, m < 2147483648 ∧ f 16 = Int32.ofNat m) :
    ∃ nm', K_m_calls D (Int32.ofNat F) a1 a2 a3 a4 cx f g n b l t z = some (.inl none, (jXt cx (jY f g (jup n 0 nm') b l t), z)) ∧ ∀ i, i < 7 → nm' i = jnm a1 a2 (mwnd f g (g 14 F)) (g 15 F) a3 a4 (g 14 F) i := by
  have h2 : jout (2 : Int32) 7 = False := jout_f (k := 2) (by omega) (by omega)
  have h3 : jout (3 : Int32) 7 = False := jout_f (k := 3) (by omega) (by omega)
  have h4 : jout (4 : Int32) 7 = False := jout_f (k := 4) (by omega) (by omega)
  have h5 : jout (5 : Int32) 7 = False := jout_f (k := 5) (by omega) (by omega)
  have h6 : jout (6 : Int32) 7 = False := jout_f (k := 6) (by omega) (by omega)
  have hw : ∀ {n : Nat → Nat → Int64}, K_m_windOf D (g 14 F) cx f g n b l t z = some (.inl (some (.int (mwnd f g (g 14 F)))), (jXt cx (jY f g n b l t), z)) := by
    intro n; rw [hd]; exact M_windOf hW hn hdn hfr
  refine ⟨jup (jup (jup (jup (jup (jup (jup (n 0) 0 a1.toInt64) 1 a2.toInt64) 2 (mwnd f g (g 14 F)).toInt64) 3 (g 15 F).toInt64) 4 a3.toInt64) 5 a4.toInt64) 6 (g 14 F).toInt64, ?_, ?_⟩
  · simp (disch := omega) only [E_m_calls, E_m_calls_21, E_m_calls_31, E_m_calls_37, E_m_calls_43, E_m_calls_52, jbO_some, jbO_none, jbO_ite, jk_some, jk_none, hw, h2, h3, h4, h5, h6, jout_f, jclamp, if_false, jup_same, jup_jup]
    rfl
  · refine jnm_of ?_ ?_ ?_ ?_ ?_ ?_ ?_ <;> simp [jup]
/-- a law of the reference at the seven names: none where it isn't told or goes wrong -/
theorem M_lawgo {D r n0 : Nat} {kd vl : Nat → Int32} {cx : jCX} {f : Nat → Int32} {g : Nat → Nat → Int32} {n : Nat → Nat → Int64} {b : Nat → Nat → Int32} {l : Nat → Int64} {t : List jE} {z : Nat × Nat × Nat × (Nat → Int32)} (hr : r < 3) (hL : rLaw n0 kd vl g r) (hwf : jwf n0 kd vl) :
    ∃ b0 : Int32, K_m_hasLaw D (Int32.ofNat r) cx f g n b l t z = some (.inl (some (.int b0)), (jXt cx (jY f g n b l t), z)) ∧ (b0 = 0 → jlaw n0 kd vl (n 0) = none) ∧
      (¬ b0 = 0 → ∃ x n1, K_m_goes D (Int32.ofNat r) cx f g n b l t z = some (.inl (some (.int (if (jlaw n0 kd vl (n 0)).isSome then 1 else 0))), (jXt cx (jY (jup f 15 x) g (jup n 1 n1) b l t), z)) ∧ ∀ v, jlaw n0 kd vl (n 0) = some v → n1 0 = v) := by
  obtain ⟨a, ha, hb, ham, htr⟩ := hL
  rw [E_m_hasLaw]
  simp (disch := omega) only [jout_f, jclamp, if_false, ha, hb]
  rcases hwf.2 with h0 | h1
  · subst h0
    rw [if_neg (jlt_n (by omega) (by omega))]
    exact ⟨0, rfl, fun _ => rfl, fun h => absurd rfl h⟩
  · by_cases hz : n0 = 0
    · subst hz
      rw [if_neg (jlt_n (by omega) (by omega))]
      exact ⟨0, rfl, fun _ => rfl, fun h => absurd rfl h⟩
    · rw [if_pos (jlt_t (by omega) (by omega))]
      refine ⟨1, rfl, fun h => absurd h (by decide), fun _ => ?_⟩
      exact S_m_goes hr ha hb ham h1 htr
theorem M_lawgo0 {D n0 : Nat} {kd vl : Nat → Int32} {cx : jCX} {f : Nat → Int32} {g : Nat → Nat → Int32} {n : Nat → Nat → Int64} {b : Nat → Nat → Int32} {l : Nat → Int64} {t : List jE} {z : Nat × Nat × Nat × (Nat → Int32)} (hL : rLaw n0 kd vl g 0) (hwf : jwf n0 kd vl) :
    ∃ b0 : Int32, K_m_hasLaw D 0 cx f g n b l t z = some (.inl (some (.int b0)), (jXt cx (jY f g n b l t), z)) ∧ (b0 = 0 → jlaw n0 kd vl (n 0) = none) ∧
      (¬ b0 = 0 → ∃ x n1, K_m_goes D 0 cx f g n b l t z = some (.inl (some (.int (if (jlaw n0 kd vl (n 0)).isSome then 1 else 0))), (jXt cx (jY (jup f 15 x) g (jup n 1 n1) b l t), z)) ∧ ∀ v, jlaw n0 kd vl (n 0) = some v → n1 0 = v) := M_lawgo (r := 0) (by omega) hL hwf
theorem M_lawgo1 {D n0 : Nat} {kd vl : Nat → Int32} {cx : jCX} {f : Nat → Int32} {g : Nat → Nat → Int32} {n : Nat → Nat → Int64} {b : Nat → Nat → Int32} {l : Nat → Int64} {t : List jE} {z : Nat × Nat × Nat × (Nat → Int32)} (hL : rLaw n0 kd vl g 1) (hwf : jwf n0 kd vl) :
    ∃ b0 : Int32, K_m_hasLaw D 1 cx f g n b l t z = some (.inl (some (.int b0)), (jXt cx (jY f g n b l t), z)) ∧ (b0 = 0 → jlaw n0 kd vl (n 0) = none) ∧
      (¬ b0 = 0 → ∃ x n1, K_m_goes D 1 cx f g n b l t z = some (.inl (some (.int (if (jlaw n0 kd vl (n 0)).isSome then 1 else 0))), (jXt cx (jY (jup f 15 x) g (jup n 1 n1) b l t), z)) ∧ ∀ v, jlaw n0 kd vl (n 0) = some v → n1 0 = v) := M_lawgo (r := 1) (by omega) hL hwf
theorem M_lawgo2 {D n0 : Nat} {kd vl : Nat → Int32} {cx : jCX} {f : Nat → Int32} {g : Nat → Nat → Int32} {n : Nat → Nat → Int64} {b : Nat → Nat → Int32} {l : Nat → Int64} {t : List jE} {z : Nat × Nat × Nat × (Nat → Int32)} (hL : rLaw n0 kd vl g 2) (hwf : jwf n0 kd vl) :
    ∃ b0 : Int32, K_m_hasLaw D 2 cx f g n b l t z = some (.inl (some (.int b0)), (jXt cx (jY f g n b l t), z)) ∧ (b0 = 0 → jlaw n0 kd vl (n 0) = none) ∧
      (¬ b0 = 0 → ∃ x n1, K_m_goes D 2 cx f g n b l t z = some (.inl (some (.int (if (jlaw n0 kd vl (n 0)).isSome then 1 else 0))), (jXt cx (jY (jup f 15 x) g (jup n 1 n1) b l t), z)) ∧ ∀ v, jlaw n0 kd vl (n 0) = some v → n1 0 = v) := M_lawgo (r := 2) (by omega) hL hwf
/-- what every method of the reference asks of where it stands -/
def rAt (q : Nat → Int32) (qa : Nat → Nat → Int32) (C Sc : Nat) (S : jS) (e0 p0 c0 : Int32) (F : Nat) (f : Nat → Int32) (g : Nat → Nat → Int32) : Prop :=
  F < 23 ∧ rPl q qa C Sc g ∧ rSt C Sc S e0 p0 c0 (f 19) F g ∧ (∃ dn, S.1 0 = Int32.ofNat dn ∧ dn < 2147483648) ∧ (∃ h, S.1 1 = Int32.ofNat h ∧ h < 12) ∧ (f 16 = -1 ∨ ∃ m, m < 2147483648 ∧ f 16 = Int32.ofNat m)
theorem M_isSeenBy {D F c : Nat} {x sg gr : Int32} {C Sc : Nat} {q : Nat → Int32} {qa : Nat → Nat → Int32} {S : jS} {e0 p0 c0 : Int32} {cx : jCX} {f : Nat → Int32} {g : Nat → Nat → Int32} {n : Nat → Nat → Int64} {b : Nat → Nat → Int32} {l : Nat → Int64} {t : List jE} {z : Nat × Nat × Nat × (Nat → Int32)} (hA : rAt q qa C Sc S e0 p0 c0 F f g) (hc : c < C) :
    ∃ y n', K_m_isSeenBy D (Int32.ofNat F) x sg gr (Int32.ofNat c) cx f g n b l t z = some (.inl (some (.int (if csee q qa sg (mwnd f g (S.1 0)) (S.1 1) gr (S.1 0) x (Int32.ofNat c) (S.2 0 c) then 1 else 0))), (jXt cx (jY (jup f 15 y) g n' b l t), z)) := by
  obtain ⟨hF, hP, hS, ⟨dn, hd, hdn⟩, -, hfr⟩ := hA
  obtain ⟨hPl, ⟨g0, -, -, -, -, -, g6, -, -⟩, -, -, -, hL, -, -⟩ := hP
  have hnz := hPl.nz
  obtain ⟨-, hC30, -, -, -, -, ⟨Wn, hW, hWn⟩, -, ⟨n0, hn0, hwf⟩, -, -⟩ := hPl
  obtain ⟨s14, s15, -, -, -, -, s20, -, -⟩ := hS
  have hcr : g 20 (30 * F + c) = S.2 0 c := s20 c hc
  have hidx : (30 : Int32) * Int32.ofNat F + Int32.ofNat c = Int32.ofNat (30 * F + c) := by rw [jofmullr, jofadd]
  rw [hn0, jclamp (by have := hwf.1; omega)] at hL
  obtain ⟨nm', hca, hnm⟩ := M_calls (D := D) (F := F) (a1 := sg) (a2 := jdist (g 1 0) x (Int32.ofNat c)) (a3 := gr) (a4 := S.2 0 c) (cx := cx) (f := f) (g := g) (n := n) (b := b) (l := l) (t := t) (z := z) hF (g6.trans hW) hWn (s14.trans hd) hdn hfr
  obtain ⟨b0, hhl, hb0, hb1⟩ := M_lawgo0 (D := D) (cx := cx) (f := f) (g := g) (n := jup n 0 nm') (b := b) (l := l) (t := t) (z := z) hL hwf
  rw [jup_same, jlaw_congr hwf hnm, s14, s15, g0] at hb0 hb1
  simp (disch := omega) only [E_m_isSeenBy, E_m_isSeenBy_4, E_m_isSeenBy_19, E_m_isSeenBy_22, jbO_some, jbO_none, jbO_ite, jk_some, jk_none, M_farOf (show ¬ g 1 0 = 0 by rw [g0]; exact hnz), hidx, jout_f, jclamp, if_false, hcr, hca, hhl]
  unfold csee
  rw [hn0, jclamp (by have := hwf.1; omega)]
  by_cases hb : b0 = 0
  · rw [hb0 hb]
    simp only [hb, if_true, E_m_isSeenBy_38, g0]
    refine ⟨f 15, jup n 0 nm', ?_⟩
    rw [jup_self]
    by_cases hlt : sg < jdist (q 1) x (Int32.ofNat c) <;> simp [hlt]
  · obtain ⟨y, n1, hgo, hv⟩ := hb1 hb
    simp only [hb, if_false, hgo, jbO_some, jbO_none, jbO_ite, jk_some, jk_none, E_m_isSeenBy_26, E_m_isSeenBy_38, g0, jb10]
    refine ⟨y, jup (jup n 0 nm') 1 n1, ?_⟩
    cases hl : jlaw n0 (qa 8) (qa 9) (jnm sg (jdist (q 1) x (Int32.ofNat c)) (mwnd f g (S.1 0)) (S.1 1) gr (S.2 0 c) (S.1 0)) with
    | none =>
      simp only [Option.isSome_none, Bool.false_eq_true, not_false_eq_true, if_true]
      by_cases hlt : sg < jdist (q 1) x (Int32.ofNat c) <;> simp [hlt]
    | some v =>
      simp only [Option.isSome_some, not_true_eq_false, if_false, jup_same, hv v hl, lg_cmp_eq]
      by_cases hv0 : v = 0 <;> simp [hv0]
theorem M_isSeen {D F c i : Nat} {C Sc : Nat} {tf q : Nat → Int32} {qa : Nat → Nat → Int32} {S : jS} {e0 p0 c0 : Int32} {cx : jCX} {f : Nat → Int32} {g : Nat → Nat → Int32} {n : Nat → Nat → Int64} {b : Nat → Nat → Int32} {l : Nat → Int64} {t : List jE} {z : Nat × Nat × Nat × (Nat → Int32)} (hA : rAt q qa C Sc S e0 p0 c0 F f g) (hT : rTw tf f Sc) (hc : c < C) (hi : i < Sc) :
    ∃ y n', K_m_isSeen D (Int32.ofNat F) (Int32.ofNat i) (Int32.ofNat c) cx f g n b l t z = some (.inl (some (.int (if csees tf q qa S.1 S.2 (mwnd f g (S.1 0)) i c then 1 else 0))), (jXt cx (jY (jup f 15 y) g n' b l t), z)) := by
  have hA2 := hA
  obtain ⟨hF, hP, hS, -⟩ := hA
  obtain ⟨hPl, -, -, hsc, -⟩ := hP
  have hS6 : Sc ≤ 6 := hPl.2.2.2.2.2.1
  obtain ⟨-, -, -, -, -, -, -, -, s6⟩ := hS
  obtain ⟨-, e4, e5, -⟩ := hsc i hi
  obtain ⟨-, e24, -⟩ := s6 i hi
  have hidx : (6 : Int32) * Int32.ofNat F + Int32.ofNat i = Int32.ofNat (6 * F + i) := by rw [jofmullr, jofadd]
  obtain ⟨y, n', hsb⟩ := M_isSeenBy (D := D) (c := c) (x := qa 2 i) (sg := qa 3 i + tf 18) (gr := S.2 3 i) (cx := cx) (f := f) (g := g) (n := n) (b := b) (l := l) (t := t) (z := z) hA2 hc
  refine ⟨y, n', ?_⟩
  have hi12 : i < 12 := by omega
  simp (disch := omega) only [E_m_isSeen, E_m_isSeen_9, E_m_isSeen_19, jbO_some, jbO_none, jbO_ite, jk_some, jk_none, M_sightOf, hidx, jout_f, jclamp, if_false, e4, e5, e24, hT.2.2.1, hsb, jb1or, if_true]
  rfl
