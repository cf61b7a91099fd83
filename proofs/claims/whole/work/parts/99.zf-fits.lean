-- CALL BY CALL: fits
theorem jmaxh_rng {P : Nat → Bool} {k8 : Nat → Int32} : ∀ {n : Nat}, (∀ i, i < n → P i = true → ∃ h, h ≤ 48 ∧ k8 i = Int32.ofNat h) → ∃ l, l ≤ 48 ∧ jmaxh P k8 n = Int32.ofNat l
  | 0, _ => ⟨0, by omega, rfl⟩
  | n + 1, h => by
    obtain ⟨l, hl, he⟩ := jmaxh_rng (P := P) (k8 := k8) (n := n) (fun i hi => h i (by omega))
    rw [jmaxh]
    by_cases hp : P n = true
    · rw [if_pos hp]
      obtain ⟨x, hx, hx2⟩ := h n (by omega) hp
      split
      · exact ⟨x, hx, hx2⟩
      · exact ⟨l, hl, he⟩
    · rw [if_neg hp]; exact ⟨l, hl, he⟩
theorem A_fits {D : Nat} {a : Int32} {f : Nat → Int32} {g : Nat → Nat → Int32} {n2 : Nat → Nat → Int64} {p : Nat → Nat → Int32} {pa : Nat → Nat → Nat → Int32} {s : Nat → Nat → Int32} {sa : Nat → Nat → Nat → Int32} {sw : Bool} {rp : Value} {mf : Nat → Int32} {mg : Nat → Nat → Int32} {mn : Nat → Nat → Int64} {mb : Nat → Nat → Int32} {ml : Nat → Int64} (h : RR f g p pa s sa sw mf mg mb) : ∀ (t : List jE) (z : Nat × Nat × Nat × (Nat → Int32)), ∃ r : Int32, ∃ f' g' n2' p' pa' s' sa' sw' rp', K_c_fits D a f g n2 p pa s sa sw rp t z = some (.inl (some (.int r)), (jX f' g' n2' p' pa' s' sa' sw' rp' t, z)) ∧ ∀ (cx : jCX) (t1 : List jE) (z1 : Nat × Nat × Nat × (Nat → Int32)), ∃ mf' mg' mn' mb' ml', K_m_fits D a cx mf mg mn mb ml t1 z1 = some (.inl (some (.int r)), (jXt cx (jY mf' mg' mn' mb' ml' t1), z1)) ∧ RR f' g' p' pa' s' sa' sw' mf' mg' mb' := by
  intro t z
  obtain ⟨C, Sc, T, hP, hC, hS6, hT, hT2, hjn, hmn, hfr, hTw, hAt, hW, -, hm15⟩ := RR_ex (n2 := n2) (rp := rp) (mn := mn) (ml := ml) h
  have hr := RR_congr h (by intro k hk; simp (disch := omega) only [jup_ne]) (by intro k hk; simp (disch := omega) only [jup_ne]) rfl rfl (by constructor <;> simp (disch := omega) only [jup_ne]) (by constructor <;> simp (disch := omega) only [jup_ne]) (by intro k hk; simp (disch := omega) only [jup_ne]) (jq1.rf) rfl (f' := f) (g' := g) (s' := s) (sa' := sa) (p' := p) (pa' := pa) (sw' := sw) (mf' := jup mf 0 0) (mg' := mg) (mb' := mb)
  have hS := hP.1.2.2.2.2.1
  have hsc := S_p_hasScare (D := D) (w := sw) (x := a) (f := f) (g := g) (n2 := n2) (p := p) (pa := pa) (s := s) (sa := sa) (sw := sw) (rp := rp) (t := t) (z := z) hS hS6
  have hms := fun {cx t z} => M_isScare (D := D) (x := a) (cx := cx) (f := jup mf 0 0) (g := mg) (n := mn) (b := mb) (l := ml) (t := t) (z := z) hP
  have h10' : ¬ (1 : Int32) = 0 := by decide
  rcases jout_dec a Sc (by omega) with ho | ⟨i, hi, rfl⟩
  · refine ⟨-1, f, g, n2, p, pa, s, sa, sw, rp, ?_, fun cx t z => ⟨jup mf 0 0, mg, mn, mb, ml, ?_, hr⟩⟩
    · simp only [E_c_fits, hsc, if_pos ho, jbO_some, jbO_none, jbO_ite, jk_some, jk_none, E_c_fits_4, if_true]
    · simp only [E_m_fits, hms, if_pos ho, jbO_some, jbO_none, jbO_ite, jk_some, jk_none, E_m_fits_6, if_true]
  have hno : ¬ jout (Int32.ofNat i) Sc := jout_n hi (by omega)
  obtain ⟨C', Sc', hP', hq7, _, _, _, _, hUn, hNo, _, _, _⟩ := id h
  obtain ⟨hCC, hSS⟩ := jPl_inj hP'.1 hP.1
  subst hCC hSS
  obtain ⟨nn, hnn, h24, hm23, hm24, h25, hN⟩ := hNo
  obtain ⟨kn, hkn, hknc, hknm⟩ : ∃ kn, kn ≤ nn ∧ K_n_knownCount D f g n2 p pa s sa sw rp t z = some (.inl (some (.int (Int32.ofNat kn))), (jX f g n2 p pa s sa sw rp t, z)) ∧ (((jup mf 0 0) 24 = -1 ∧ (jup mf 0 0) 23 = Int32.ofNat kn) ∨ (¬ (jup mf 0 0) 24 = -1 ∧ (jup mf 0 0) 24 = Int32.ofNat kn)) := by
    rw [E_n_knownCount, jup_ne (by omega), jup_ne (by omega), ← hm24, hm23]
    rcases h25 with h25 | ⟨k, hk, h25⟩
    · exact ⟨nn, Nat.le_refl nn, by rw [if_pos h25, h24], Or.inl ⟨h25, rfl⟩⟩
    · have hne : ¬ f 25 = -1 := by rw [h25, jnot_one (by omega)]; exact fun q => q
      refine ⟨k, hk, ?_, Or.inr ⟨hne, h25⟩⟩
      rw [if_neg hne, h25, h24, if_neg (jlt_n (by omega) (by omega))]
  have h9a : ∀ i, i < kn → g 7 i = 0 → ∃ j, j < 24 ∧ g 9 i = Int32.ofNat j := by
    intro i hi h7
    rcases hN i (by omega) with ⟨-, -, j, hj, hj2⟩ | ⟨h7', -⟩
    · exact ⟨j, by omega, hj2⟩
    · rw [h7] at h7'; rcases h7' with q | q <;> exact absurd q (by decide)
  have h9s : ∀ x, x < kn → g 7 x = 0 → ∃ j, j < x ∧ j < 2147483648 ∧ g 9 x = Int32.ofNat j := by
    intro i hi h7
    rcases hN i (by omega) with ⟨-, -, j, hj, hj2⟩ | ⟨h7', -⟩
    · exact ⟨j, hj, by omega, hj2⟩
    · rw [h7] at h7'; rcases h7' with q | q <;> exact absurd q (by decide)
  have h9b : ∀ i, i < nn → ¬ g 7 i = 0 → ∃ c, c < 30 ∧ g 9 i = Int32.ofNat c := by
    intro i hi h7
    rcases hN i hi with ⟨h7', -⟩ | ⟨-, -, -, -, -, -, ⟨c, hc, hc2⟩, -⟩
    · exact absurd h7' h7
    · exact ⟨c, by omega, hc2⟩
  have hcut : ∀ i, kn ≤ i → jsta (g 7) (g 9) kn i = false := by
    intro i hi; unfold jsta; simp; omega
  obtain ⟨last, hl48, hlast⟩ := jmaxh_rng (P := jsta (g 7) (g 9) kn) (k8 := g 8) (n := nn) (by
    intro i hi hp
    rcases hN i hi with ⟨h7, -⟩ | ⟨-, -, -, -, -, ⟨x, -, hx, hx2⟩, -⟩
    · unfold jsta at hp; rw [h7] at hp; simp at hp
    · exact ⟨x, hx, hx2⟩)
  obtain ⟨x2, hst, hbt⟩ := S_n_standing (D := D) (kn := kn) (f := f) (g := g) (n2 := n2) (p := p) (pa := pa) (s := s) (sa := sa) (sw := sw) (rp := rp) (t := t) (z := z) (by omega) hknc h9a
  have hlh := S_n_lastHours (D := D) (nn := nn) (x1 := x2) (P := jsta (g 7) (g 9) kn) (f := f) (g := g) (n2 := n2) (p := p) (pa := pa) (s := s) (sa := sa) (sw := sw) (rp := rp) (t := t) (z := z) hnn h24 hbt
  rw [hlast] at hlh
  have hcells : p (jq sw) 1 * p (jq sw) 2 = Int32.ofNat C' := hP.1.1
  obtain ⟨n2', hcl⟩ := S_fits_20 (D := D) (nn := nn) (last := last) (C := C') (Sc := Sc') (i := i) (x2 := x2) (d6 := none) (d7 := none) (P := jsta (g 7) (g 9) kn) (f := f) (g := g) (n2 := n2) (p := p) (pa := pa) (s := s) (sa := sa) (sw := sw) (rp := rp) (t := t) (z := z) hcells hC (by omega) hP.1 hm15 hl48 hnn h24 hbt h9b
  refine ⟨(jfz f (g 2) (p (jq sw)) (pa (jq sw)) C' Sc' (jsta (g 7) (g 9) kn) g nn last i (s 2, sa 2) 12).2, f, g, n2', p, pa, jup s 2 (jfz f (g 2) (p (jq sw)) (pa (jq sw)) C' Sc' (jsta (g 7) (g 9) kn) g nn last i (s 2, sa 2) 12).1.1, jup sa 2 (jfz f (g 2) (p (jq sw)) (pa (jq sw)) C' Sc' (jsta (g 7) (g 9) kn) g nn last i (s 2, sa 2) 12).1.2, sw, rp, ?_, fun cx t1 z1 => ?_⟩
  · simp only [E_c_fits, hsc, if_neg hno, jbO_some, jbO_none, jbO_ite, jk_some, jk_none, E_c_fits_4, h10', if_false, hst, E_c_fits_10, hlh, E_c_fits_15]
    exact hcl
  · obtain ⟨v0, he0, hv0⟩ := M_fits_13 (D := D) (kn := kn) (x1 := Int32.ofNat i) (x2 := 0) (d4 := none) (cx := cx) (f := jup mf 0 0) (g := mg) (n := mn) (b := mb) (l := ml) (t := t1) (z := z1) (by omega) hknm
    obtain ⟨v, he1, hv⟩ := M_fits_29 (D := D) (kn := kn) (x1 := Int32.ofNat i) (x2 := 0) (d4 := none) (k7 := g 7) (k9 := g 9) (v0 := v0) (cx := cx) (f := jup mf 0 0) (g := mg) (n := mn) (b := mb) (l := ml) (t := t1) (z := z1) (by omega) hv0 (by
      intro i hi
      rcases hN i (by omega) with ⟨h7, h33, hj⟩ | ⟨h7, h33, -⟩
      · exact Or.inl ⟨h7, h33, hj⟩
      · refine Or.inr ⟨?_, h33⟩
        rcases h7 with q | q <;> rw [q] <;> decide)
    have hR : jnr (jsta (g 7) (g 9) kn) g C' kn mg (jup mb 1 v) := by
      intro i hi
      have hsta : jsta (g 7) (g 9) kn i = (!jstr (g 7) (g 9) kn kn i && !decide (g 7 i = 0)) := by
        unfold jsta; rw [jstr_all h9s hi]; simp [hi]
      rw [jup_same, jup_ne (by omega), hsta, hv i hi]
      rcases hN i (by omega) with ⟨h7, h33, j, hj, hj2⟩ | ⟨h7, h33, h30, h31, h32, -, hcc, hb0⟩
      · refine Or.inr ⟨by simp [h7], Or.inr ?_⟩
        rw [h33, hj2, jnot_one (by omega)]; exact fun q => q
      · have h70 : ¬ g 7 i = 0 := by rcases h7 with q | q <;> rw [q] <;> decide
        by_cases hs : jstr (g 7) (g 9) kn kn i = true
        · refine Or.inr ⟨by simp [hs], Or.inl ?_⟩
          rw [if_pos hs]; decide
        · refine Or.inl ⟨by simp [hs, h70], ?_, h33, h70, h30, h31, h32, hcc, hb0⟩
          rw [if_neg hs]
    have he2 := M_fits_54 (D := D) (kn := kn) (C := C') (x1 := Int32.ofNat i) (d4 := none) (P := jsta (g 7) (g 9) kn) (G := g) (cx := cx) (f := jup mf 0 0) (g := mg) (n := mn) (b := jup mb 1 v) (l := ml) (t := t1) (z := z1) (by omega) hknm hR
    have hmx : jmaxh (jsta (g 7) (g 9) kn) (g 8) kn = Int32.ofNat last := by
      rw [← hlast, show nn = kn + (nn - kn) by omega]; exact (jmaxh_cut hcut _).symm
    rw [hmx] at he2
    obtain ⟨y, n', g', he3, hfo⟩ := M_fits_82 (D := D) (last := last) (i := i) (nn := nn) (kn := kn) (C := C') (Sc := Sc') (tf := f) (w9 := g 2) (q := p (jq sw)) (qa := pa (jq sw)) (G := g) (P := jsta (g 7) (g 9) kn) (A := (s 2, sa 2)) (cx := cx) (f := jup mf 0 0) (g := mg) (n := mn) (b := jup mb 1 v) (l := ml) (t := t1) (z := z1) hP hi hAt.2.2.2.2.2 hTw (by rw [jup_ne (by omega), hmn.2.1]; decide) (fun d hd => by have := hW (g 2) 0 d hd; rw [mwnd_f] at this; exact this) hl48 (by omega) hknm hR hcut hkn
    refine ⟨jup (jup mf 0 0) 15 y, g', n', jup mb 1 v, ml, ?_, ?_⟩
    · simp only [E_m_fits, hms, if_neg hno, jbO_some, jbO_none, jbO_ite, jk_some, jk_none, E_m_fits_6, h10', if_false]
      rw [he0, he1, he2, he3]
    · exact RR_congr h (by intro k hk; simp (disch := omega) only [jup_ne]) (by intro k hk; simp (disch := omega) only [jup_ne]) rfl rfl (by constructor <;> simp (disch := omega) only [jup_ne]) (by constructor <;> simp (disch := omega) only [jup_ne]) (by intro k hk; simp (disch := omega) only [jup_ne]) (jq1.of hfo) rfl (f' := f) (g' := g) (s' := jup s 2 (jfz f (g 2) (p (jq sw)) (pa (jq sw)) C' Sc' (jsta (g 7) (g 9) kn) g nn last i (s 2, sa 2) 12).1.1) (sa' := jup sa 2 (jfz f (g 2) (p (jq sw)) (pa (jq sw)) C' Sc' (jsta (g 7) (g 9) kn) g nn last i (s 2, sa 2) 12).1.2) (p' := p) (pa' := pa) (sw' := sw) (mf' := jup (jup mf 0 0) 15 y) (mg' := g') (mb' := jup mb 1 v)
