-- STEPS that can be undone, on both sides
theorem jcop.tr {A B B2 : Nat} {g g' g'' : Nat → Nat → Int32} (h1 : jcop B B2 g g') (h2 : jcop A B g' g'') : jcop A B2 g g'' :=
  ⟨fun k a b => (h2.1 k a b).trans (h1.1 k a b), fun c h => (h2.2.1 c h).trans (h1.2.1 c h), fun c h => (h2.2.2.1 c h).trans (h1.2.2.1 c h), fun k a b i c => (h2.2.2.2 k a b i c).trans (h1.2.2.2 k a b i c)⟩
theorem jcop.rf {A : Nat} {g : Nat → Nat → Int32} : jcop A A g g := ⟨fun _ _ _ => rfl, fun _ _ => rfl, fun _ _ => rfl, fun _ _ _ _ _ => rfl⟩
theorem jfo.cop {A F : Nat} {g g' : Nat → Nat → Int32} (h : jfo A g g') (hF : F ≠ A) : jcop F F g g' :=
  ⟨fun k a b => h.2.1 k a b F hF, fun c hc => h.2.2.1 _ (by omega), fun c hc => h.2.2.2.1 _ (by omega), fun k a b i hi => h.2.2.2.2 k a b _ (by omega)⟩
theorem jcop.fr {A B C Sc : Nat} {S : jS} {g g' : Nat → Nat → Int32} (h : jcop A B g g') (hC : C ≤ 30) (hS6 : Sc ≤ 6) (hs : rFr C Sc S B g) : rFr C Sc S A g' :=
  ⟨h.st hC hS6 hs.1, (h.1 19 (by omega) (by omega)).trans hs.2.1, hs.2.2⟩
def jlow (g g' : Nat → Nat → Int32) : Prop := ∀ k, k < 14 ∨ 25 ≤ k → g' k = g k
theorem e3add {k : Nat} : (3 : Int32) + Int32.ofNat k = Int32.ofNat (3 + k) := jofadd (a := 3)
theorem M_keepNow {D u : Nat} {cx : jCX} {f : Nat → Int32} {g : Nat → Nat → Int32} {n : Nat → Nat → Int64} {b : Nat → Nat → Int32} {l : Nat → Int64} {t : List jE} {z : Nat × Nat × Nat × (Nat → Int32)} (hu : f 18 = Int32.ofNat u) (hu20 : u ≤ 20) :
    ∃ g', K_m_keepNow D cx f g n b l t z = some (.inl none, (jXt cx (jY (jup f 18 (Int32.ofNat (min u 19 + 1))) g' n b l t), z)) ∧ jlow g g' ∧ (∀ F, F < 3 → jcop F F g g') ∧ jcop (3 + min u 19) 0 g g' ∧ ∀ j, j < min u 19 → jcop (3 + j) (3 + j + (u - min u 19)) g g' := by
  have h27 : ∀ {f : Nat → Int32} {g : Nat → Nat → Int32} {d1 : Option Value} {v : Nat}, f 18 = Int32.ofNat v → v ≤ 19 → ∃ g', K_m_keepNow_27 D d1 cx f g n b l t z = some (.inl none, (jXt cx (jY (jup f 18 (Int32.ofNat (v + 1))) g' n b l t), z)) ∧ jfo (3 + v) g g' ∧ jcop (3 + v) 0 g g' := by
    intro f g d1 v hv hv19
    obtain ⟨g', he, h1, h2⟩ := M_copies (D := D) (A := 3 + v) (B := 0) (cx := cx) (f := f) (g := g) (n := n) (b := b) (l := l) (t := t) (z := z) (by omega) (by omega) (by omega)
    have he2 : K_m_copies D (Int32.ofNat (3 + v)) 0 cx f g n b l t z = _ := he
    refine ⟨g', ?_, h1, h2⟩
    rw [E_m_keepNow_27, hv, e3add, he2]
    simp only [jbO_some, jbO_none, jbO_ite, jk_some, jk_none, E_m_keepNow_34, hv, jsucc]
  rw [E_m_keepNow, hu]
  by_cases h20 : u = 20
  · subst h20
    rw [if_pos (show Int32.ofNat 20 = 20 from rfl)]
    have key : ∀ k, k ≤ 19 → ∃ g', K_m_keepNow_6 D 1 cx f g n b l t z = K_m_keepNow_6 D (Int32.ofNat (1 + k)) cx f g' n b l t z ∧ jlow g g' ∧ (∀ F, F < 3 ∨ 3 + k ≤ F → jcop F F g g') ∧ ∀ j, j < k → jcop (3 + j) (3 + j + 1) g g' := by
      intro k
      induction k with
      | zero => intro _; exact ⟨g, rfl, fun _ _ => rfl, fun _ _ => jcop.rf, fun j hj => absurd hj (by omega)⟩
      | succ k ih =>
        intro hk
        obtain ⟨g1, he, h1, h2, h3⟩ := ih (by omega)
        obtain ⟨g2, hc, h4, h5⟩ := M_copies (D := D) (A := 3 + k) (B := 3 + (1 + k)) (cx := cx) (f := f) (g := g1) (n := n) (b := b) (l := l) (t := t) (z := z) (by omega) (by omega) (by omega)
        have e2 : Int32.ofNat (3 + (1 + k)) - 1 = Int32.ofNat (3 + k) := by
          rw [show (1 : Int32) = Int32.ofNat 1 from rfl, ← Int32.ofNat_sub _ _ (by omega)]; congr 1; omega
        refine ⟨g2, ?_, fun x hx => (h4.1 x hx).trans (h1 x hx), ?_, ?_⟩
        · rw [he, L_m_keepNow_6, if_pos (show Int32.ofNat (1 + k) < 20 from jlt_t (b := 20) (by omega) (by omega)), e3add, e2, hc]
          simp only [jbO_some, jbO_none, jbO_ite, jk_some, jk_none, E_m_keepNow_19, jsucc]
          rfl
        · intro F hF
          exact (h2 F (by omega)).tr (h4.cop (by omega))
        · intro j hj
          by_cases hjk : j = k
          · subst hjk
            have := (h2 (3 + (1 + j)) (by omega)).tr h5
            rwa [show 3 + (1 + j) = 3 + j + 1 by omega] at this
          · exact (h3 j (by omega)).tr (h4.cop (by omega))
    obtain ⟨g1, he, h1, h2, h3⟩ := key 19 (Nat.le_refl 19)
    have h19 : (jup f 18 (f 18 - 1)) 18 = Int32.ofNat 19 := by rw [jup_same, hu]; decide
    obtain ⟨g2, hc, h4, h5⟩ := h27 (f := jup f 18 (f 18 - 1)) (g := g1) (d1 := some (.int (Int32.ofNat (1 + 19)))) h19 (by omega)
    refine ⟨g2, ?_, fun x hx => (h4.1 x hx).trans (h1 x hx), ?_, ?_, ?_⟩
    · rw [he, L_m_keepNow_6, if_neg (show ¬ Int32.ofNat (1 + 19) < 20 by decide), hc, jup_jup]
      rfl
    · intro F hF; exact (h2 F (by omega)).tr (h4.cop (by omega))
    · exact (h2 0 (by omega)).tr h5
    · intro j hj
      have hj19 : j < 19 := hj
      exact (h3 j (by omega)).tr (h4.cop (by omega))
  · rw [if_neg (show ¬ Int32.ofNat u = 20 by rw [show (20 : Int32) = Int32.ofNat 20 from rfl, jeqn (by omega) (by omega)]; exact h20)]
    obtain ⟨g2, hc, h4, h5⟩ := h27 (g := g) (d1 := none) hu (by omega)
    have hmin : min u 19 = u := by omega
    rw [hmin]
    refine ⟨g2, hc, h4.1, ?_, h5, ?_⟩
    · intro F hF; exact h4.cop (by omega)
    · intro j hj
      rw [Nat.sub_self, Nat.add_zero]
      exact h4.cop (by omega)
/-- the class's steps, one more -/
def jadd3 (g : Nat → Nat → Int32) (u : Nat) (kd sc old : Int32) : Nat → Nat → Int32 := jup (jup (jup g 4 (jup (g 4) u kd)) 5 (jup (g 5) u sc)) 6 (jup (g 6) u old)
def jshf (g : Nat → Nat → Int32) (u : Nat) : Nat → Nat → Int32 := if u < 20 then g else jup (jup (jup g 4 (jcpy (g 4) (g 4) 1 0 19)) 5 (jcpy (g 5) (g 5) 1 0 19)) 6 (jcpy (g 6) (g 6) 1 0 19)
theorem S_t_add {D u : Nat} {kd sc old : Int32} {f : Nat → Int32} {g : Nat → Nat → Int32} {n2 : Nat → Nat → Int64} {p : Nat → Nat → Int32} {pa : Nat → Nat → Nat → Int32} {s : Nat → Nat → Int32} {sa : Nat → Nat → Nat → Int32} {sw : Bool} {rp : Value} {t : List jE} {z : Nat × Nat × Nat × (Nat → Int32)} (hu : f 23 = Int32.ofNat u) (hu20 : u ≤ 20) :
    K_t_add D kd sc old f g n2 p pa s sa sw rp t z = some (.inl none, (jX (jup f 23 (Int32.ofNat (min u 19 + 1))) (jadd3 (jshf g u) (min u 19) kd sc old) n2 p pa s sa sw rp t, z)) := by
  have h31 : ∀ {f : Nat → Int32} {g : Nat → Nat → Int32} {v : Nat}, f 23 = Int32.ofNat v → v ≤ 19 → K_t_add_31 D kd sc old f g n2 p pa s sa sw rp t z = some (.inl none, (jX (jup f 23 (Int32.ofNat (v + 1))) (jadd3 g v kd sc old) n2 p pa s sa sw rp t, z)) := by
    intro f g v hv hv19
    simp (disch := omega) only [E_t_add_31, E_t_add_42, E_t_add_48, hv, jout_f, jclamp, if_false, jsucc, jadd3, jup_ne]
  rw [E_t_add, hu]
  by_cases h20 : u = 20
  · subst h20
    rw [if_neg (show ¬ Int32.ofNat 20 < 20 by decide), h31 (v := 19) (by rw [jup_same]; rfl) (by omega), jup_jup]
    rfl
  · rw [if_pos (show Int32.ofNat u < 20 from jlt_t (b := 20) (by omega) (by omega)), h31 hu (by omega)]
    rw [show min u 19 = u by omega, jshf, if_pos (show u < 20 by omega)]
theorem jadd3_at {g : Nat → Nat → Int32} {u i : Nat} {kd sc old : Int32} {a : Nat} (ha : a = 4 ∨ a = 5 ∨ a = 6) (hi : i ≠ u) : jadd3 g u kd sc old a i = g a i := by
  unfold jadd3
  rcases ha with rfl | rfl | rfl <;> simp [jup, hi]
theorem jshf_at {g : Nat → Nat → Int32} {u i a : Nat} (ha : a = 4 ∨ a = 5 ∨ a = 6) (hu : u ≤ 20) (hi : i < min u 19) : jshf g u a i = g a (i + (u - min u 19)) := by
  unfold jshf
  by_cases h : u < 20
  · rw [if_pos h, show min u 19 = u by omega, Nat.sub_self, Nat.add_zero]
  · have h20 : u = 20 := by omega
    subst h20
    have hi2 : i < 19 := hi
    rw [if_neg h]
    have hcp : ∀ x : Nat → Int32, jcpy x x 1 0 19 i = x (i + 1) := by
      intro x; unfold jcpy; rw [if_pos (by omega)]; congr 1; omega
    rcases ha with rfl | rfl | rfl <;> simp [jup, hcp]
/-- the chain of what was, one step more -/
theorem jun_add {g : Nat → Nat → Int32} {u : Nat} {kd sc old : Int32} {S S' : jS} (hu : u ≤ 20) (hback : jrv kd sc old S' = S) : ∀ m, m ≤ min u 19 → jun (jadd3 (jshf g u) (min u 19) kd sc old) (min u 19 + 1) S' (m + 1) = jun g u S m := by
  intro m
  induction m with
  | zero =>
    intro _
    show jrv _ _ _ S' = S
    rw [show min u 19 + 1 - 1 - 0 = min u 19 by omega]
    have h4 : jadd3 (jshf g u) (min u 19) kd sc old 4 (min u 19) = kd := by simp [jadd3, jup]
    have h5 : jadd3 (jshf g u) (min u 19) kd sc old 5 (min u 19) = sc := by simp [jadd3, jup]
    have h6 : jadd3 (jshf g u) (min u 19) kd sc old 6 (min u 19) = old := by simp [jadd3, jup]
    rw [h4, h5, h6]
    exact hback
  | succ m ih =>
    intro hm
    have hstep : jun (jadd3 (jshf g u) (min u 19) kd sc old) (min u 19 + 1) S' (m + 1 + 1) = jrv (jadd3 (jshf g u) (min u 19) kd sc old 4 (min u 19 + 1 - 1 - (m + 1))) (jadd3 (jshf g u) (min u 19) kd sc old 5 (min u 19 + 1 - 1 - (m + 1))) (jadd3 (jshf g u) (min u 19) kd sc old 6 (min u 19 + 1 - 1 - (m + 1))) (jun (jadd3 (jshf g u) (min u 19) kd sc old) (min u 19 + 1) S' (m + 1)) := rfl
    rw [hstep, ih (by omega)]
    have hat : ∀ a, a = 4 ∨ a = 5 ∨ a = 6 → jadd3 (jshf g u) (min u 19) kd sc old a (min u 19 + 1 - 1 - (m + 1)) = g a (u - 1 - m) := by
      intro a ha
      rw [jadd3_at ha (by omega), jshf_at ha hu (by omega)]
      congr 1; omega
    rw [hat 4 (by omega), hat 5 (by omega), hat 6 (by omega)]
    rfl
