-- CALL BY CALL: flap, strike, hat
theorem jstk_iff {x y tw : Int32} {i : Nat} (hi : i < 32) (hxy : x = y) (htw : ¬ tw = 1) : ((tw = 1 ∨ ((x >>> (Int32.ofNat i &&& 31)) &&& 1) = 1) ↔ ¬ ((y >>> (Int32.ofNat i &&& 31)) &&& 1) = 0) := by
  subst hxy
  rw [jbit10 hi, jbit0 hi]
  simp [htw]
/-- a step behind which all else is as it was -/
theorem RR_step {C Sc u i : Nat} {kd sc old : Int32} {mg1 mg' : Nat → Nat → Int32} {s' : Nat → Nat → Int32} {sa' : Nat → Nat → Nat → Int32} {f : Nat → Int32} {g : Nat → Nat → Int32} {n2 : Nat → Nat → Int64} {p : Nat → Nat → Int32} {pa : Nat → Nat → Nat → Int32} {s : Nat → Nat → Int32} {sa : Nat → Nat → Nat → Int32} {sw : Bool} {rp : Value} {mf : Nat → Int32} {mg : Nat → Nat → Int32} {mn : Nat → Nat → Int64} {mb : Nat → Nat → Int32} {ml : Nat → Int64}
    (h1 : rPl (p (jq sw)) (pa (jq sw)) C Sc mg) (h2 : ∃ r : Nat, r < 100 ∧ p (jq sw) 7 = Int32.ofNat r) (h3 : jneu f) (h4 : mneu mf) (h5 : rFr C Sc (s 0, sa 0) 0 mg) (h6 : rIm C Sc (s 1, sa 1) f mf mg)
    (u1 : u ≤ 20) (u2 : f 23 = Int32.ofNat u) (u4 : ∀ m, m < u → rFr C Sc (jun g u (s 0, sa 0) (m + 1)) (3 + (u - 1 - m)) mg) (u5 : ∀ k, k < u → ∃ i, i < Sc ∧ g 5 k = Int32.ofNat i) (h8 : rNo C f g mf mg mb) (h9 : rTa f g mf mg) (h10 : f 7 = mf 11 ∧ f 8 = mf 12) (h11 : rWd g ∧ ∃ m : Nat, m < 100 ∧ p (jq sw) 6 = Int32.ofNat m)
    (k1 : jlow mg mg1) (k2 : ∀ F, F < 3 → jcop F F mg mg1) (k3 : jcop (3 + min u 19) 0 mg mg1) (k4 : ∀ j, j < min u 19 → jcop (3 + j) (3 + j + (u - min u 19)) mg mg1)
    (hi : i < Sc) (hsc : sc = Int32.ofNat i) (hback : jrv kd sc old (s' 0, sa' 0) = (s 0, sa 0)) (hs1 : s' 1 = s 1) (hsa1 : sa' 1 = sa 1) (ho : jfo 0 mg1 mg') (hnow : rFr C Sc (s' 0, sa' 0) 0 mg') :
    RR (jup f 23 (Int32.ofNat (min u 19 + 1))) (jadd3 (jshf g u) (min u 19) kd sc old) p pa s' sa' sw (jup (jup mf 0 0) 18 (Int32.ofNat (min u 19 + 1))) mg' mb := by
  have hC : C ≤ 30 := h1.1.2.1
  have hS6 : Sc ≤ 6 := h1.1.2.2.2.2.2.1
  have hlow : jlow mg mg' := fun k hk => (ho.1 k hk).trans (k1 k hk)
  have hg : ∀ k, k < 4 ∨ 7 ≤ k → jadd3 (jshf g u) (min u 19) kd sc old k = g k := by
    intro k hk
    unfold jadd3 jshf
    rw [jup_ne (by omega), jup_ne (by omega), jup_ne (by omega)]
    split
    · rfl
    · rw [jup_ne (by omega), jup_ne (by omega), jup_ne (by omega)]
  refine ⟨C, Sc, rPl_congr h1 (fun k hk => hlow k (Or.inl hk)), h2, ?_, ?_, hnow, ?_, ?_, ?_, ?_, ?_, ?_⟩
  · unfold jneu at h3 ⊢; simp (disch := omega) only [jup_ne]; exact h3
  · unfold mneu at h4 ⊢; simp (disch := omega) only [jup_ne]; exact h4
  · unfold rIm at h6 ⊢
    simp (disch := omega) only [jup_ne]
    rw [hs1, hsa1]
    exact ⟨h6.1, h6.2.1, fun hn => ((k2 2 (by omega)).tr (ho.cop (by omega))).fr hC hS6 (h6.2.2 hn)⟩
  · refine ⟨min u 19 + 1, by omega, jup_same, jup_same, ?_, ?_⟩
    · intro m hm
      rw [jun_add u1 hback m (by omega)]
      by_cases hm0 : m = 0
      · subst hm0
        have := (k3.tr (ho.cop (show 3 + min u 19 ≠ 0 by omega))).fr hC hS6 h5
        rw [show 3 + (min u 19 + 1 - 1 - 0) = 3 + min u 19 by omega]
        exact this
      · have hold := u4 (m - 1) (by omega)
        rw [show m - 1 + 1 = m by omega] at hold
        have hk := (k4 (min u 19 - m) (by omega)).tr (ho.cop (show 3 + (min u 19 - m) ≠ 0 by omega))
        rw [show 3 + (min u 19 - m) + (u - min u 19) = 3 + (u - 1 - (m - 1)) by omega] at hk
        rw [show 3 + (min u 19 + 1 - 1 - m) = 3 + (min u 19 - m) by omega]
        exact hk.fr hC hS6 hold
    · intro k hk
      by_cases hku : k = min u 19
      · subst hku
        refine ⟨i, hi, ?_⟩
        unfold jadd3
        simp [jup, hsc]
      · rw [jadd3_at (by omega) hku, jshf_at (by omega) u1 (by omega)]
        exact u5 _ (by omega)
  · unfold rNo at h8 ⊢
    simp (disch := omega) only [jup_ne]
    rw [hg 7 (by omega), hg 8 (by omega), hg 9 (by omega), hg 10 (by omega), hlow 30 (by omega), hlow 31 (by omega), hlow 32 (by omega), hlow 33 (by omega)]
    exact h8
  · unfold rTa at h9 ⊢
    simp (disch := omega) only [jup_ne]
    rw [hg 0 (by omega), hlow 0 (by omega)]; exact h9
  · simp (disch := omega) only [jup_ne]; exact h10
  · unfold rWd at h11 ⊢
    rw [hg 1 (by omega)]; exact h11
theorem rFr_rota {C Sc i : Nat} {S : jS} {w : Int32} {g : Nat → Nat → Int32} (h : rFr C Sc S 0 g) (hi : i < Sc) (hS6 : Sc ≤ 6) : rFr C Sc (S.1, jup S.2 2 (jup (S.2 2) i w)) 0 (jup g 23 (jup (g 23) i w)) ∧ jfo 0 g (jup g 23 (jup (g 23) i w)) := by
  obtain ⟨⟨a1, a2, a3, a4, a5, a6, a7, a8, a9⟩, b1, b2, b3, b4⟩ := h
  refine ⟨⟨⟨?_, ?_, ?_, ?_, ?_, ?_, ?_, ?_, ?_⟩, ?_, b2, ?_, ?_⟩, ?_, ?_, ?_, ?_, ?_⟩
  · simpa [jup] using a1
  · simpa [jup] using a2
  · simpa [jup] using a3
  · simpa [jup] using a4
  · simpa [jup] using a5
  · simpa [jup] using a6
  · simpa [jup] using a7
  · simpa [jup] using a8
  · intro k hk
    have := a9 k hk
    rw [Nat.mul_zero, Nat.zero_add] at this ⊢
    by_cases hki : k = i
    · subst hki; simpa [jup] using this.2
    · simpa [jup, hki] using this
  · simpa [jup] using b1
  · unfold jCr at b3 ⊢; simpa [jup] using b3
  · unfold jOth at b4 ⊢; simpa [jup] using b4
  · intro x hx; rw [jup_ne (by omega)]
  · intro x p1 p2 k hk; rw [jup_ne (by omega)]
  · intro k hk; rw [jup_ne (by omega)]
  · intro k hk; rw [jup_ne (by omega)]
  · intro x p1 p2 k hk
    by_cases hx : x = 23
    · subst hx; rw [jup_same, jup_ne (by omega)]
    · rw [jup_ne hx]
theorem rFr_grade {C Sc i r : Nat} {S : jS} {g : Nat → Nat → Int32} (h : rFr C Sc S 0 g) (hi : i < Sc) (hS6 : Sc ≤ 6) (hr : r < 10) : rFr C Sc (S.1, jup S.2 3 (jup (S.2 3) i (Int32.ofNat r))) 0 (jup g 24 (jup (g 24) i (Int32.ofNat r))) ∧ jfo 0 g (jup g 24 (jup (g 24) i (Int32.ofNat r))) := by
  obtain ⟨⟨a1, a2, a3, a4, a5, a6, a7, a8, a9⟩, b1, b2, b3, b4⟩ := h
  refine ⟨⟨⟨?_, ?_, ?_, ?_, ?_, ?_, ?_, ?_, ?_⟩, ?_, b2, ?_, ?_⟩, ?_, ?_, ?_, ?_, ?_⟩
  · simpa [jup] using a1
  · simpa [jup] using a2
  · simpa [jup] using a3
  · simpa [jup] using a4
  · simpa [jup] using a5
  · simpa [jup] using a6
  · simpa [jup] using a7
  · simpa [jup] using a8
  · intro k hk
    have := a9 k hk
    rw [Nat.mul_zero, Nat.zero_add] at this ⊢
    by_cases hki : k = i
    · subst hki; simp [jup, this.1, this.2.2]
    · simpa [jup, hki] using this
  · simpa [jup] using b1
  · unfold jCr at b3 ⊢; simpa [jup] using b3
  · refine ⟨b4.1, ?_⟩
    intro k hk
    dsimp only
    rw [jup_same]
    by_cases hki : k = i
    · subst hki; exact ⟨r, hr, jup_same⟩
    · rw [jup_ne hki]; exact b4.2 k hk
  · intro x hx; rw [jup_ne (by omega)]
  · intro x p1 p2 k hk; rw [jup_ne (by omega)]
  · intro k hk; rw [jup_ne (by omega)]
  · intro k hk; rw [jup_ne (by omega)]
  · intro x p1 p2 k hk
    by_cases hx : x = 24
    · subst hx; rw [jup_same, jup_ne (by omega)]
    · rw [jup_ne hx]
theorem rFr_strike {C Sc k : Nat} {S : jS} {g : Nat → Nat → Int32} (h : rFr C Sc S 0 g) (hS6 : Sc ≤ 6) (hk : k < 64) : rFr C Sc (jup S.1 2 (Int32.ofNat k), S.2) 0 (jup g 19 (jup (g 19) 0 (Int32.ofNat k))) ∧ jfo 0 g (jup g 19 (jup (g 19) 0 (Int32.ofNat k))) := by
  obtain ⟨⟨a1, a2, a3, a4, a5, a6, a7, a8, a9⟩, b1, ⟨T, b2, b22⟩, b3, b4⟩ := h
  refine ⟨⟨⟨?_, ?_, ?_, ?_, ?_, ?_, ?_, ?_, ?_⟩, ?_, ⟨T, ⟨?_, ?_⟩, b22⟩, b3, ?_⟩, ?_, ?_, ?_, ?_, ?_⟩
  · simpa [jup] using a1
  · simpa [jup] using a2
  · simpa [jup] using a3
  · simpa [jup] using a4
  · simpa [jup] using a5
  · intro x hx
    exact jstk_iff (by omega) (by simp [jup]) (by decide)
  · simpa [jup] using a7
  · simpa [jup] using a8
  · simpa [jup] using a9
  · simp [jup]
  · dsimp only; rw [jup_ne (by omega)]; exact b2.1
  · dsimp only; rw [jup_ne (by omega)]; exact b2.2
  · refine ⟨⟨k, hk, by simp [jup]⟩, b4.2⟩
  · intro x hx; rw [jup_ne (by omega)]
  · intro x p1 p2 y hy
    by_cases hx : x = 19
    · subst hx; rw [jup_same, jup_ne hy]
    · rw [jup_ne hx]
  · intro k hk; rw [jup_ne (by omega)]
  · intro k hk; rw [jup_ne (by omega)]
  · intro x p1 p2 k hk; rw [jup_ne (by omega)]
theorem A_flap {D : Nat} {a x v : Int32} {f : Nat → Int32} {g : Nat → Nat → Int32} {n2 : Nat → Nat → Int64} {p : Nat → Nat → Int32} {pa : Nat → Nat → Nat → Int32} {s : Nat → Nat → Int32} {sa : Nat → Nat → Nat → Int32} {sw : Bool} {rp : Value} {mf : Nat → Int32} {mg : Nat → Nat → Int32} {mn : Nat → Nat → Int64} {mb : Nat → Nat → Int32} {ml : Nat → Int64} (h : RR f g p pa s sa sw mf mg mb) : ∀ (t : List jE) (z : Nat × Nat × Nat × (Nat → Int32)), ∃ r : Int32, ∃ f' g' n2' p' pa' s' sa' sw' rp', K_c_flap D a x v f g n2 p pa s sa sw rp t z = some (.inl (some (.int r)), (jX f' g' n2' p' pa' s' sa' sw' rp' t, z)) ∧ ∀ (cx : jCX) (t1 : List jE) (z1 : Nat × Nat × Nat × (Nat → Int32)), ∃ mf' mg' mn' mb' ml', K_m_flap D a x v cx mf mg mn mb ml t1 z1 = some (.inl (some (.int r)), (jXt cx (jY mf' mg' mn' mb' ml' t1), z1)) ∧ RR f' g' p' pa' s' sa' sw' mf' mg' mb' := by
  intro t z
  obtain ⟨C, Sc, h1, h2, h3, h4, h5, h6, ⟨u, u1, u2, u3, u4, u5⟩, h8, h9, h10, h11⟩ := id h
  have hS := h1.1.2.2.2.2.1
  have hS6 : Sc ≤ 6 := h1.1.2.2.2.2.2.1
  have hC : C ≤ 30 := h1.1.2.1
  have hsc := fun {x} => S_p_hasScare (D := D) (w := sw) (x := x) (f := f) (g := g) (n2 := n2) (p := p) (pa := pa) (s := s) (sa := sa) (sw := sw) (rp := rp) (t := t) (z := z) hS hS6
  have hms := fun {x cx t z} => M_isScare (D := D) (x := x) (cx := cx) (f := jup mf 0 0) (g := mg) (n := mn) (b := mb) (l := ml) (t := t) (z := z) h1
  have hr := RR_congr h (by intro k hk; simp (disch := omega) only [jup_ne]) (by intro k hk; simp (disch := omega) only [jup_ne]) rfl rfl (by constructor <;> simp (disch := omega) only [jup_ne]) (by constructor <;> simp (disch := omega) only [jup_ne]) (by intro k hk; simp (disch := omega) only [jup_ne]) (jq1.rf) rfl (f' := f) (g' := g) (s' := s) (sa' := sa) (p' := p) (pa' := pa) (sw' := sw) (mf' := jup mf 0 0) (mg' := mg) (mb' := mb)
  have h10' : ¬ (1 : Int32) = 0 := by decide
  rcases jout_dec a Sc (by omega) with ho | ⟨i, hi, rfl⟩
  · refine ⟨0, f, g, n2, p, pa, s, sa, sw, rp, ?_, fun cx t z => ⟨jup mf 0 0, mg, mn, mb, ml, ?_, hr⟩⟩
    · simp only [E_c_flap, hsc, if_pos ho, jbO_some, jbO_none, jbO_ite, jk_some, jk_none, E_c_flap_4, if_true]
    · simp only [E_m_flap, hms, if_pos ho, jbO_some, jbO_none, jbO_ite, jk_some, jk_none, E_m_flap_6, if_true]
  have hno : ¬ jout (Int32.ofNat i) Sc := jout_n hi (by omega)
  have c23 : mg 23 i = sa 0 2 i := ((fr0 h5).2.2.2.2.2.2.2.2 i hi).1
  rcases jcases x with hx | ⟨k, hk, rfl⟩
  · refine ⟨0, f, g, n2, p, pa, s, sa, sw, rp, ?_, fun cx t z => ⟨jup mf 0 0, mg, mn, mb, ml, ?_, hr⟩⟩
    · simp only [E_c_flap, hsc, if_neg hno, jbO_some, jbO_none, jbO_ite, jk_some, jk_none, E_c_flap_4, h10', hx, if_true, if_false]
    · simp only [E_m_flap, hms, if_neg hno, jbO_some, jbO_none, jbO_ite, jk_some, jk_none, E_m_flap_6, h10', hx, if_true, if_false]
  by_cases hk12 : Int32.ofNat k < 12
  rotate_left
  · refine ⟨0, f, g, n2, p, pa, s, sa, sw, rp, ?_, fun cx t z => ⟨jup mf 0 0, mg, mn, mb, ml, ?_, hr⟩⟩
    · simp only [E_c_flap, hsc, if_neg hno, jbO_some, jbO_none, jbO_ite, jk_some, jk_none, E_c_flap_4, h10', jnonneg hk, hk12, if_false]
    · simp only [E_m_flap, hms, if_neg hno, jbO_some, jbO_none, jbO_ite, jk_some, jk_none, E_m_flap_6, h10', jnonneg hk, hk12, if_false]
  have hk12' : k < 12 := by
    rw [show (12 : Int32) = Int32.ofNat 12 from rfl, jltn hk (by omega)] at hk12; exact hk12
  generalize hbv : (if bt (sa 0 2 i) k then (1 : Int32) else 0) = bv
  have hc4 : ∀ {f : Nat → Int32} {g : Nat → Nat → Int32}, K_c_flap D (Int32.ofNat i) (Int32.ofNat k) v f g n2 p pa s sa sw rp t z = K_c_flap_27 D (Int32.ofNat i) (Int32.ofNat k) v (sa 0 2 i) bv f g n2 p pa s sa sw rp t z := by
    intro f g
    have hsc2 := S_p_hasScare (D := D) (w := sw) (x := Int32.ofNat i) (f := f) (g := g) (n2 := n2) (p := p) (pa := pa) (s := s) (sa := sa) (sw := sw) (rp := rp) (t := t) (z := z) hS hS6
    simp (disch := omega) only [E_c_flap, hsc2, if_neg hno, jbO_some, jbO_none, jbO_ite, jk_some, jk_none, E_c_flap_4, h10', jnonneg hk, hk12, if_false, if_true, jout_f, jclamp, jbit0]
    rw [← hbv]
    cases bt (sa 0 2 i) k <;> simp
  have hm6 : ∀ {cx t z}, K_m_flap D (Int32.ofNat i) (Int32.ofNat k) v cx mf mg mn mb ml t z = K_m_flap_25 D (Int32.ofNat i) (Int32.ofNat k) v bv cx (jup mf 0 0) mg mn mb ml t z := by
    intro cx t z
    simp (disch := omega) only [E_m_flap, hms, if_neg hno, jbO_some, jbO_none, jbO_ite, jk_some, jk_none, E_m_flap_6, h10', jnonneg hk, hk12, if_false, if_true, jout_f, jclamp, c23, jbit10]
    rw [← hbv]
    cases bt (sa 0 2 i) k <;> simp
  by_cases hv : bv = v
  · refine ⟨0, f, g, n2, p, pa, s, sa, sw, rp, ?_, fun cx t z => ⟨jup mf 0 0, mg, mn, mb, ml, ?_, hr⟩⟩
    · simp only [hc4, E_c_flap_27, hv, if_true]
    · simp only [hm6, E_m_flap_25, hv, if_true]
  · have hadd := S_t_add (D := D) (kd := 0) (sc := Int32.ofNat i) (old := sa 0 2 i) (f := f) (g := g) (n2 := n2) (p := p) (pa := pa) (s := s) (sa := sa) (sw := sw) (rp := rp) (t := t) (z := z) u2 u1
    refine ⟨1, jup f 23 (Int32.ofNat (min u 19 + 1)), jadd3 (jshf g u) (min u 19) 0 (Int32.ofNat i) (sa 0 2 i), n2, p, pa, s, jup sa 0 (jup (sa 0) 2 (jup (sa 0 2) i (sa 0 2 i ^^^ (1 <<< (Int32.ofNat k &&& 31))))), sw, rp, ?_, fun cx t1 z1 => ?_⟩
    · simp (disch := omega) only [hc4, E_c_flap_27, hv, if_false, hadd, jbO_some, jbO_none, jbO_ite, jk_some, jk_none, E_c_flap_37, jout_f, jclamp]
    · obtain ⟨mg1, hkn, k1, k2, k3, k4⟩ := M_keepNow (D := D) (u := u) (cx := cx) (f := jup mf 0 0) (g := mg) (n := mn) (b := mb) (l := ml) (t := t1) (z := z1) (by rw [jup_ne (by omega)]; exact u3) u1
      have hf1 := (k2 0 (by omega)).fr hC hS6 h5
      have c231 : mg1 23 i = sa 0 2 i := ((fr0 hf1).2.2.2.2.2.2.2.2 i hi).1
      obtain ⟨hf2, hfo2⟩ := rFr_rota (w := sa 0 2 i ^^^ (1 <<< (Int32.ofNat k &&& 31))) hf1 hi hS6
      refine ⟨_, _, mn, mb, ml, ?_, RR_step (n2 := n2) (rp := rp) (mn := mn) (ml := ml) (s' := s) (sa' := jup sa 0 (jup (sa 0) 2 (jup (sa 0 2) i (sa 0 2 i ^^^ (1 <<< (Int32.ofNat k &&& 31)))))) (kd := 0) (sc := Int32.ofNat i) (old := sa 0 2 i) h1 h2 h3 h4 h5 h6 u1 u2 u4 u5 h8 h9 h10 h11 k1 k2 k3 k4 hi rfl ?_ rfl (jup_ne (by omega)) hfo2 ?_⟩
      · simp (disch := omega) only [hm6, E_m_flap_25, hv, if_false, hkn, jbO_some, jbO_none, jbO_ite, jk_some, jk_none, E_m_flap_31, jout_f, jclamp, c231]
      · unfold jrv
        simp (disch := omega) only [if_true, jclamp, jup_same, jup_jup, jup_self]
      · rw [jup_same]; exact hf2
theorem jxor_lt : ∀ k, k < 64 → ∀ i, i < 6 → ∃ r, r < 64 ∧ Int32.ofNat k ^^^ ((1 : Int32) <<< (Int32.ofNat i &&& 31)) = Int32.ofNat r := by
  intro k hk i hi
  refine ⟨(Int32.ofNat k ^^^ ((1 : Int32) <<< (Int32.ofNat i &&& 31))).toNatClampNeg, ?_⟩
  exact (by decide +kernel : ∀ k, k < 64 → ∀ i, i < 6 → (Int32.ofNat k ^^^ ((1 : Int32) <<< (Int32.ofNat i &&& 31))).toNatClampNeg < 64 ∧ Int32.ofNat k ^^^ ((1 : Int32) <<< (Int32.ofNat i &&& 31)) = Int32.ofNat (Int32.ofNat k ^^^ ((1 : Int32) <<< (Int32.ofNat i &&& 31))).toNatClampNeg) k hk i hi
theorem A_strike {D : Nat} {a v : Int32} {f : Nat → Int32} {g : Nat → Nat → Int32} {n2 : Nat → Nat → Int64} {p : Nat → Nat → Int32} {pa : Nat → Nat → Nat → Int32} {s : Nat → Nat → Int32} {sa : Nat → Nat → Nat → Int32} {sw : Bool} {rp : Value} {mf : Nat → Int32} {mg : Nat → Nat → Int32} {mn : Nat → Nat → Int64} {mb : Nat → Nat → Int32} {ml : Nat → Int64} (h : RR f g p pa s sa sw mf mg mb) : ∀ (t : List jE) (z : Nat × Nat × Nat × (Nat → Int32)), ∃ r : Int32, ∃ f' g' n2' p' pa' s' sa' sw' rp', K_c_strike D a v f g n2 p pa s sa sw rp t z = some (.inl (some (.int r)), (jX f' g' n2' p' pa' s' sa' sw' rp' t, z)) ∧ ∀ (cx : jCX) (t1 : List jE) (z1 : Nat × Nat × Nat × (Nat → Int32)), ∃ mf' mg' mn' mb' ml', K_m_strike D a v cx mf mg mn mb ml t1 z1 = some (.inl (some (.int r)), (jXt cx (jY mf' mg' mn' mb' ml' t1), z1)) ∧ RR f' g' p' pa' s' sa' sw' mf' mg' mb' := by
  intro t z
  obtain ⟨C, Sc, h1, h2, h3, h4, h5, h6, ⟨u, u1, u2, u3, u4, u5⟩, h8, h9, h10, h11⟩ := id h
  have hS := h1.1.2.2.2.2.1
  have hS6 : Sc ≤ 6 := h1.1.2.2.2.2.2.1
  have hC : C ≤ 30 := h1.1.2.1
  have hsc := fun {x} => S_p_hasScare (D := D) (w := sw) (x := x) (f := f) (g := g) (n2 := n2) (p := p) (pa := pa) (s := s) (sa := sa) (sw := sw) (rp := rp) (t := t) (z := z) hS hS6
  have hms := fun {x cx t z} => M_isScare (D := D) (x := x) (cx := cx) (f := jup mf 0 0) (g := mg) (n := mn) (b := mb) (l := ml) (t := t) (z := z) h1
  have hr := RR_congr h (by intro k hk; simp (disch := omega) only [jup_ne]) (by intro k hk; simp (disch := omega) only [jup_ne]) rfl rfl (by constructor <;> simp (disch := omega) only [jup_ne]) (by constructor <;> simp (disch := omega) only [jup_ne]) (by intro k hk; simp (disch := omega) only [jup_ne]) (jq1.rf) rfl (f' := f) (g' := g) (s' := s) (sa' := sa) (p' := p) (pa' := pa) (sw' := sw) (mf' := jup mf 0 0) (mg' := mg) (mb' := mb)
  have h10' : ¬ (1 : Int32) = 0 := by decide
  rcases jout_dec a Sc (by omega) with ho | ⟨i, hi, rfl⟩
  · refine ⟨0, f, g, n2, p, pa, s, sa, sw, rp, ?_, fun cx t z => ⟨jup mf 0 0, mg, mn, mb, ml, ?_, hr⟩⟩
    · simp only [E_c_strike, hsc, if_pos ho, jbO_some, jbO_none, jbO_ite, jk_some, jk_none, E_c_strike_4, if_true]
    · simp only [E_m_strike, hms, if_pos ho, jbO_some, jbO_none, jbO_ite, jk_some, jk_none, E_m_strike_6, if_true]
  have hno : ¬ jout (Int32.ofNat i) Sc := jout_n hi (by omega)
  have b19 : mg 19 0 = s 0 2 := (fr0 h5).2.2.2.2.2.1
  generalize hbv : (if bt (s 0 2) i then (1 : Int32) else 0) = bv
  have hc4 : K_c_strike D (Int32.ofNat i) v f g n2 p pa s sa sw rp t z = jev D 112 9 ([some (.ref 0), some (.int (Int32.ofNat i)), some (.int v)], []) [.int bv] (jX f g n2 p pa s sa sw rp t, z) := by
    simp (disch := omega) only [E_c_strike, hsc, if_neg hno, jbO_some, jbO_none, jbO_ite, jk_some, jk_none, E_c_strike_4, h10', if_false, E_s_onStrike, jbit0]
    rw [← hbv]
    cases bt (s 0 2) i <;> simp
  have hm6 : ∀ {cx t z}, K_m_strike D (Int32.ofNat i) v cx mf mg mn mb ml t z = K_m_strike_20 D (Int32.ofNat i) v bv cx (jup mf 0 0) mg mn mb ml t z := by
    intro cx t z
    simp (disch := omega) only [E_m_strike, hms, if_neg hno, jbO_some, jbO_none, jbO_ite, jk_some, jk_none, E_m_strike_6, h10', if_false, b19, jbit10]
    rw [← hbv]
    cases bt (s 0 2) i <;> simp
  by_cases hv : bv = v
  · refine ⟨0, f, g, n2, p, pa, s, sa, sw, rp, ?_, fun cx t z => ⟨jup mf 0 0, mg, mn, mb, ml, ?_, hr⟩⟩
    · simp only [hc4, E_c_strike_9, hv, if_true]
    · simp only [hm6, E_m_strike_20, hv, if_true]
  · have hadd := S_t_add (D := D) (kd := 1) (sc := Int32.ofNat i) (old := s 0 2) (f := f) (g := g) (n2 := n2) (p := p) (pa := pa) (s := s) (sa := sa) (sw := sw) (rp := rp) (t := t) (z := z) u2 u1
    obtain ⟨k, hk, hks⟩ := h5.2.2.2.2.1
    dsimp only at hks
    obtain ⟨r, hr64, hrx⟩ := jxor_lt k hk i (by omega)
    have hnew : s 0 2 ^^^ (1 <<< (Int32.ofNat i &&& 31)) = Int32.ofNat r := by rw [hks]; exact hrx
    refine ⟨1, jup f 23 (Int32.ofNat (min u 19 + 1)), jadd3 (jshf g u) (min u 19) 1 (Int32.ofNat i) (s 0 2), n2, p, pa, jup s 0 (jup (s 0) 2 (Int32.ofNat r)), sa, sw, rp, ?_, fun cx t1 z1 => ?_⟩
    · simp (disch := omega) only [hc4, E_c_strike_9, hv, if_false, hadd, jbO_some, jbO_none, jbO_ite, jk_some, jk_none, E_c_strike_21, hnew]
    · obtain ⟨mg1, hkn, k1, k2, k3, k4⟩ := M_keepNow (D := D) (u := u) (cx := cx) (f := jup mf 0 0) (g := mg) (n := mn) (b := mb) (l := ml) (t := t1) (z := z1) (by rw [jup_ne (by omega)]; exact u3) u1
      have hf1 := (k2 0 (by omega)).fr hC hS6 h5
      have b191 : mg1 19 0 = s 0 2 := (fr0 hf1).2.2.2.2.2.1
      obtain ⟨hf2, hfo2⟩ := rFr_strike hf1 hS6 hr64
      refine ⟨_, _, mn, mb, ml, ?_, RR_step (n2 := n2) (rp := rp) (mn := mn) (ml := ml) (s' := jup s 0 (jup (s 0) 2 (Int32.ofNat r))) (sa' := sa) (kd := 1) (sc := Int32.ofNat i) (old := s 0 2) h1 h2 h3 h4 h5 h6 u1 u2 u4 u5 h8 h9 h10 h11 k1 k2 k3 k4 hi rfl ?_ (jup_ne (by omega)) rfl hfo2 ?_⟩
      · simp (disch := omega) only [hm6, E_m_strike_20, hv, if_false, hkn, jbO_some, jbO_none, jbO_ite, jk_some, jk_none, E_m_strike_26, b191, hnew]
      · unfold jrv
        rw [if_neg (by decide), if_neg (by decide)]
        simp (disch := omega) only [jup_same, jup_jup, jup_self]
      · rw [jup_same]; exact hf2
theorem A_hat {D : Nat} {a x : Int32} {f : Nat → Int32} {g : Nat → Nat → Int32} {n2 : Nat → Nat → Int64} {p : Nat → Nat → Int32} {pa : Nat → Nat → Nat → Int32} {s : Nat → Nat → Int32} {sa : Nat → Nat → Nat → Int32} {sw : Bool} {rp : Value} {mf : Nat → Int32} {mg : Nat → Nat → Int32} {mn : Nat → Nat → Int64} {mb : Nat → Nat → Int32} {ml : Nat → Int64} (h : RR f g p pa s sa sw mf mg mb) : ∀ (t : List jE) (z : Nat × Nat × Nat × (Nat → Int32)), ∃ r : Int32, ∃ f' g' n2' p' pa' s' sa' sw' rp', K_c_hat D a x f g n2 p pa s sa sw rp t z = some (.inl (some (.int r)), (jX f' g' n2' p' pa' s' sa' sw' rp' t, z)) ∧ ∀ (cx : jCX) (t1 : List jE) (z1 : Nat × Nat × Nat × (Nat → Int32)), ∃ mf' mg' mn' mb' ml', K_m_hat D a x cx mf mg mn mb ml t1 z1 = some (.inl (some (.int r)), (jXt cx (jY mf' mg' mn' mb' ml' t1), z1)) ∧ RR f' g' p' pa' s' sa' sw' mf' mg' mb' := by
  intro t z
  obtain ⟨C, Sc, h1, h2, h3, h4, h5, h6, ⟨u, u1, u2, u3, u4, u5⟩, h8, h9, h10, h11⟩ := id h
  have hS := h1.1.2.2.2.2.1
  have hS6 : Sc ≤ 6 := h1.1.2.2.2.2.2.1
  have hC : C ≤ 30 := h1.1.2.1
  have hsc := fun {x} => S_p_hasScare (D := D) (w := sw) (x := x) (f := f) (g := g) (n2 := n2) (p := p) (pa := pa) (s := s) (sa := sa) (sw := sw) (rp := rp) (t := t) (z := z) hS hS6
  have hms := fun {x cx t z} => M_isScare (D := D) (x := x) (cx := cx) (f := jup mf 0 0) (g := mg) (n := mn) (b := mb) (l := ml) (t := t) (z := z) h1
  have hr := RR_congr h (by intro k hk; simp (disch := omega) only [jup_ne]) (by intro k hk; simp (disch := omega) only [jup_ne]) rfl rfl (by constructor <;> simp (disch := omega) only [jup_ne]) (by constructor <;> simp (disch := omega) only [jup_ne]) (by intro k hk; simp (disch := omega) only [jup_ne]) (jq1.rf) rfl (f' := f) (g' := g) (s' := s) (sa' := sa) (p' := p) (pa' := pa) (sw' := sw) (mf' := jup mf 0 0) (mg' := mg) (mb' := mb)
  have h10' : ¬ (1 : Int32) = 0 := by decide
  rcases jout_dec a Sc (by omega) with ho | ⟨i, hi, rfl⟩
  · refine ⟨0, f, g, n2, p, pa, s, sa, sw, rp, ?_, fun cx t z => ⟨jup mf 0 0, mg, mn, mb, ml, ?_, hr⟩⟩
    · simp only [E_c_hat, hsc, if_pos ho, jbO_some, jbO_none, jbO_ite, jk_some, jk_none, E_c_hat_4, if_true]
    · simp only [E_m_hat, hms, if_pos ho, jbO_some, jbO_none, jbO_ite, jk_some, jk_none, E_m_hat_6, if_true]
  have hno : ¬ jout (Int32.ofNat i) Sc := jout_n hi (by omega)
  have c24 : mg 24 i = sa 0 3 i := ((fr0 h5).2.2.2.2.2.2.2.2 i hi).2.1
  rcases jcases x with hx | ⟨k, hk, rfl⟩
  · refine ⟨0, f, g, n2, p, pa, s, sa, sw, rp, ?_, fun cx t z => ⟨jup mf 0 0, mg, mn, mb, ml, ?_, hr⟩⟩
    · simp only [E_c_hat, hsc, if_neg hno, jbO_some, jbO_none, jbO_ite, jk_some, jk_none, E_c_hat_4, h10', hx, if_true, if_false]
    · simp only [E_m_hat, hms, if_neg hno, jbO_some, jbO_none, jbO_ite, jk_some, jk_none, E_m_hat_6, h10', hx, if_true, if_false]
  by_cases hk9 : 9 < Int32.ofNat k
  · refine ⟨0, f, g, n2, p, pa, s, sa, sw, rp, ?_, fun cx t z => ⟨jup mf 0 0, mg, mn, mb, ml, ?_, hr⟩⟩
    · simp only [E_c_hat, hsc, if_neg hno, jbO_some, jbO_none, jbO_ite, jk_some, jk_none, E_c_hat_4, h10', jnonneg hk, hk9, if_true, if_false]
    · simp only [E_m_hat, hms, if_neg hno, jbO_some, jbO_none, jbO_ite, jk_some, jk_none, E_m_hat_6, h10', jnonneg hk, hk9, if_true, if_false]
  have hk10 : k < 10 := by
    rw [show (9 : Int32) = Int32.ofNat 9 from rfl, jltn (by omega) hk] at hk9; omega
  by_cases hv : sa 0 3 i = Int32.ofNat k
  · refine ⟨0, f, g, n2, p, pa, s, sa, sw, rp, ?_, fun cx t z => ⟨jup mf 0 0, mg, mn, mb, ml, ?_, hr⟩⟩
    · simp (disch := omega) only [E_c_hat, hsc, if_neg hno, jbO_some, jbO_none, jbO_ite, jk_some, jk_none, E_c_hat_4, h10', jnonneg hk, hk9, if_true, if_false, jout_f, jclamp, hv]
    · simp (disch := omega) only [E_m_hat, hms, if_neg hno, jbO_some, jbO_none, jbO_ite, jk_some, jk_none, E_m_hat_6, h10', jnonneg hk, hk9, if_true, if_false, jout_f, jclamp, c24, hv]
  · have hadd := S_t_add (D := D) (kd := 2) (sc := Int32.ofNat i) (old := sa 0 3 i) (f := f) (g := g) (n2 := n2) (p := p) (pa := pa) (s := s) (sa := sa) (sw := sw) (rp := rp) (t := t) (z := z) u2 u1
    refine ⟨1, jup f 23 (Int32.ofNat (min u 19 + 1)), jadd3 (jshf g u) (min u 19) 2 (Int32.ofNat i) (sa 0 3 i), n2, p, pa, s, jup sa 0 (jup (sa 0) 3 (jup (sa 0 3) i (Int32.ofNat k))), sw, rp, ?_, fun cx t1 z1 => ?_⟩
    · simp (disch := omega) only [E_c_hat, hsc, if_neg hno, jbO_some, jbO_none, jbO_ite, jk_some, jk_none, E_c_hat_4, h10', jnonneg hk, hk9, if_false, jout_f, jclamp, hv, hadd, E_c_hat_29]
    · obtain ⟨mg1, hkn, k1, k2, k3, k4⟩ := M_keepNow (D := D) (u := u) (cx := cx) (f := jup mf 0 0) (g := mg) (n := mn) (b := mb) (l := ml) (t := t1) (z := z1) (by rw [jup_ne (by omega)]; exact u3) u1
      have hf1 := (k2 0 (by omega)).fr hC hS6 h5
      obtain ⟨hf2, hfo2⟩ := rFr_grade hf1 hi hS6 hk10
      refine ⟨_, _, mn, mb, ml, ?_, RR_step (n2 := n2) (rp := rp) (mn := mn) (ml := ml) (s' := s) (sa' := jup sa 0 (jup (sa 0) 3 (jup (sa 0 3) i (Int32.ofNat k)))) (kd := 2) (sc := Int32.ofNat i) (old := sa 0 3 i) h1 h2 h3 h4 h5 h6 u1 u2 u4 u5 h8 h9 h10 h11 k1 k2 k3 k4 hi rfl ?_ rfl (jup_ne (by omega)) hfo2 ?_⟩
      · simp (disch := omega) only [E_m_hat, hms, if_neg hno, jbO_some, jbO_none, jbO_ite, jk_some, jk_none, E_m_hat_6, h10', jnonneg hk, hk9, if_false, jout_f, jclamp, c24, hv, hkn, E_m_hat_22]
      · unfold jrv
        rw [if_neg (by decide), if_pos rfl]
        simp (disch := omega) only [jclamp, jup_same, jup_jup, jup_self]
      · rw [jup_same]; exact hf2
