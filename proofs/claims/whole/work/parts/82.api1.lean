-- CALL BY CALL, first ones: fault, named, wind, scare, sees
/-- what a call finds -/
theorem RR_ex {f : Nat → Int32} {g : Nat → Nat → Int32} {n2 : Nat → Nat → Int64} {p : Nat → Nat → Int32} {pa : Nat → Nat → Nat → Int32} {s : Nat → Nat → Int32} {sa : Nat → Nat → Nat → Int32} {sw : Bool} {rp : Value} {mf : Nat → Int32} {mg : Nat → Nat → Int32} {mn : Nat → Nat → Int64} {mb : Nat → Nat → Int32} {ml : Nat → Int64} (h : RR f g p pa s sa sw mf mg mb) : ∃ C Sc T, rPl (p (jq sw)) (pa (jq sw)) C Sc mg ∧ C ≤ 30 ∧ Sc ≤ 6 ∧ jtm (s 0, sa 0) T ∧ T < 12000 ∧ jneu f ∧ mneu mf ∧ rFr C Sc (s 0, sa 0) 0 mg ∧ rTw f (jup mf 0 0) Sc ∧
    rAt (p (jq sw)) (pa (jq sw)) C Sc (s 0, sa 0) 0 0 0 0 (jup mf 0 0) mg ∧ (∀ w9 y d, d < 2147483648 → mwnd (jup (jup mf 0 0) 15 y) mg (Int32.ofNat d) = cwnd f w9 (p (jq sw)) (pa (jq sw)) (Int32.ofNat d)) ∧ mwnd (jup mf 0 0) mg (s 0 0) = cwnd f (g 2) (p (jq sw)) (pa (jq sw)) (s 0 0) ∧ f 15 < 0 := by
  obtain ⟨C, Sc, h1, h2, h3, h4, h5, -⟩ := h
  obtain ⟨T, hT, hT2⟩ := h5.2.2.1
  have hS6 : Sc ≤ 6 := h1.1.2.2.2.2.2.1
  have hm4 : mneu (jup mf 0 0) := by
    unfold mneu; rw [jup_ne (by omega), jup_ne (by omega), jup_ne (by omega)]; exact h4
  have h19 : (jup mf 0 0) 19 = -1 := hm4.2.1
  refine ⟨C, Sc, T, h1, h1.1.2.1, hS6, hT, hT2, h3, h4, h5, rTw_neu h3 hm4 hS6, ⟨by omega, h1, ?_, ⟨_, hT.1, by omega⟩, ⟨_, hT.2, Nat.mod_lt _ (by omega)⟩, Or.inl hm4.1⟩, ?_, ?_, ?_⟩
  · rw [h19]; exact h5.1
  · intro w9 y d hd
    rw [mwnd_f]
    exact wnd_neu h3.2.2.2.2.2.2.2 hm4.1 h1 hd
  · rw [show s 0 0 = Int32.ofNat (T / 12) from hT.1]
    exact wnd_neu h3.2.2.2.2.2.2.2 hm4.1 h1 (by omega)
  · rw [h3.2.1]; decide
theorem M_isScare {D : Nat} {x : Int32} {C Sc : Nat} {q : Nat → Int32} {qa : Nat → Nat → Int32} {cx : jCX} {f : Nat → Int32} {g : Nat → Nat → Int32} {n : Nat → Nat → Int64} {b : Nat → Nat → Int32} {l : Nat → Int64} {t : List jE} {z : Nat × Nat × Nat × (Nat → Int32)} (hP : rPl q qa C Sc g) : K_m_isScare D x cx f g n b l t z = some (.inl (some (.int (if jout x Sc then 0 else 1))), (jXt cx (jY f g n b l t), z)) := by
  have hS6 : Sc ≤ 6 := hP.1.2.2.2.2.2.1
  simp only [E_m_isScare, hP.2.1.2.2.1, hP.1.2.2.2.2.1]
  rcases jcases x with h | ⟨k, hk, rfl⟩
  · rw [if_pos h, if_pos (Or.inl h)]
  · rw [if_neg (jnonneg hk)]
    by_cases hlt : k < Sc
    · rw [if_pos (jlt_t hlt (by omega)), if_neg (jout_n hlt (by omega))]
    · rw [if_neg (jlt_n (by omega) hk), if_pos (jout_y (by omega) hk)]
theorem M_isCell {D : Nat} {x : Int32} {C Sc : Nat} {q : Nat → Int32} {qa : Nat → Nat → Int32} {cx : jCX} {f : Nat → Int32} {g : Nat → Nat → Int32} {n : Nat → Nat → Int64} {b : Nat → Nat → Int32} {l : Nat → Int64} {t : List jE} {z : Nat × Nat × Nat × (Nat → Int32)} (hP : rPl q qa C Sc g) : K_m_isCell D x cx f g n b l t z = some (.inl (some (.int (if jout x C then 0 else 1))), (jXt cx (jY f g n b l t), z)) := by
  have hC : C ≤ 30 := hP.1.2.1
  simp only [E_m_isCell, E_m_isCell_5, M_cells hP, jbO_some, jbO_none, jbO_ite, jk_some, jk_none]
  rcases jcases x with h | ⟨k, hk, rfl⟩
  · rw [if_pos h, if_pos (Or.inl h)]
  · rw [if_neg (jnonneg hk)]
    by_cases hlt : k < C
    · rw [if_pos (jlt_t hlt (by omega)), if_neg (jout_n hlt (by omega))]
    · rw [if_neg (jlt_n (by omega) hk), if_pos (jout_y (by omega) hk)]
theorem A_fault {D : Nat} {a : Int32} {f : Nat → Int32} {g : Nat → Nat → Int32} {n2 : Nat → Nat → Int64} {p : Nat → Nat → Int32} {pa : Nat → Nat → Nat → Int32} {s : Nat → Nat → Int32} {sa : Nat → Nat → Nat → Int32} {sw : Bool} {rp : Value} {mf : Nat → Int32} {mg : Nat → Nat → Int32} {mn : Nat → Nat → Int64} {mb : Nat → Nat → Int32} {ml : Nat → Int64} (h : RR f g p pa s sa sw mf mg mb) : ∀ (t : List jE) (z : Nat × Nat × Nat × (Nat → Int32)), ∃ r : Int32, ∃ f' g' n2' p' pa' s' sa' sw' rp', K_c_fault D a f g n2 p pa s sa sw rp t z = some (.inl (some (.int r)), (jX f' g' n2' p' pa' s' sa' sw' rp' t, z)) ∧ ∀ (cx : jCX) (t1 : List jE) (z1 : Nat × Nat × Nat × (Nat → Int32)), ∃ mf' mg' mn' mb' ml', K_m_fault D a cx mf mg mn mb ml t1 z1 = some (.inl (some (.int r)), (jXt cx (jY mf' mg' mn' mb' ml' t1), z1)) ∧ RR f' g' p' pa' s' sa' sw' mf' mg' mb' := by
  have hfa : f 7 = mf 11 ∧ f 8 = mf 12 := by
    obtain ⟨C, Sc, -, -, -, -, -, -, -, -, -, h10, -⟩ := h
    exact h10
  have hr := RR_congr h (by intro k hk; simp (disch := omega) only [jup_ne]) (by intro k hk; simp (disch := omega) only [jup_ne]) rfl rfl (by constructor <;> simp (disch := omega) only [jup_ne]) (by constructor <;> simp (disch := omega) only [jup_ne]) (by intro k hk; simp (disch := omega) only [jup_ne]) (jq1.rf) rfl (f' := f) (g' := g) (s' := s) (sa' := sa) (p' := p) (pa' := pa) (sw' := sw) (mf' := jup mf 0 0) (mg' := mg) (mb' := mb)
  by_cases h0 : a = 0
  · subst h0
    intro t z; refine ⟨f 7, f, g, n2, p, pa, s, sa, sw, rp, ?_, fun cx t z => ⟨jup mf 0 0, mg, mn, mb, ml, ?_, hr⟩⟩
    · simp only [E_c_fault, if_true]
    · simp only [E_m_fault, if_true, hfa.1]
  · by_cases h1 : a = 1
    · subst h1
      intro t z; refine ⟨f 8, f, g, n2, p, pa, s, sa, sw, rp, ?_, fun cx t z => ⟨jup mf 0 0, mg, mn, mb, ml, ?_, hr⟩⟩
      · simp only [E_c_fault, h0, if_false, if_true]
      · simp only [E_m_fault, h0, if_false, if_true, hfa.2]
    · intro t z; refine ⟨-1, f, g, n2, p, pa, s, sa, sw, rp, ?_, fun cx t z => ⟨jup mf 0 0, mg, mn, mb, ml, ?_, hr⟩⟩
      · simp only [E_c_fault, h0, h1, if_false]
      · simp only [E_m_fault, h0, h1, if_false]
theorem jfnd_congr {nm nm' : Nat → Int32} {x : Int32} : ∀ {m k : Nat}, (∀ i, k ≤ i → i < k + m → nm i = nm' i) → jfnd nm x k m = jfnd nm' x k m
  | 0, _, _ => rfl
  | m + 1, k, h => by
    show (if nm k = x then Int32.ofNat k else jfnd nm x (k + 1) m) = if nm' k = x then Int32.ofNat k else jfnd nm' x (k + 1) m
    rw [h k (by omega) (by omega), jfnd_congr (fun i h1 h2 => h i (by omega) (by omega))]
/-- the reference's search among names, from a place on -/
theorem M_found {D a m : Nat} {x : Int32} {cx : jCX} {f : Nat → Int32} {g : Nat → Nat → Int32} {n : Nat → Nat → Int64} {b : Nat → Nat → Int32} {l : Nat → Int64} {t : List jE} {z : Nat × Nat × Nat × (Nat → Int32)} (ham : a + m ≤ 12) : K_m_found D (Int32.ofNat a) (Int32.ofNat m) x cx f g n b l t z = some (.inl (some (.int (jfnd (fun i => g 3 (a + i)) x 0 m))), (jXt cx (jY f g n b l t), z)) := by
  rw [E_m_found]
  have key : ∀ r k, k + r = m → K_m_found_2 D (Int32.ofNat a) (Int32.ofNat m) x (Int32.ofNat k) cx f g n b l t z = some (.inl (some (.int (jfnd (fun i => g 3 (a + i)) x k r))), (jXt cx (jY f g n b l t), z)) := by
    intro r
    induction r with
    | zero =>
      intro k hk
      rw [L_m_found_2, if_neg (jlt_n (by omega) (by omega))]; rfl
    | succ r ih =>
      intro k hk
      rw [L_m_found_2, if_pos (jlt_t (by omega) (by omega))]
      simp (disch := omega) only [jofadd, jout_f, jclamp, if_false, jsucc]
      rw [ih (k + 1) (by omega)]
      rw [show jfnd (fun i => g 3 (a + i)) x k (r + 1) = if g 3 (a + k) = x then Int32.ofNat k else jfnd (fun i => g 3 (a + i)) x (k + 1) r from rfl]
      split <;> rfl
  exact key m 0 (by omega)
theorem A_named {D : Nat} {a : Int32} {f : Nat → Int32} {g : Nat → Nat → Int32} {n2 : Nat → Nat → Int64} {p : Nat → Nat → Int32} {pa : Nat → Nat → Nat → Int32} {s : Nat → Nat → Int32} {sa : Nat → Nat → Nat → Int32} {sw : Bool} {rp : Value} {mf : Nat → Int32} {mg : Nat → Nat → Int32} {mn : Nat → Nat → Int64} {mb : Nat → Nat → Int32} {ml : Nat → Int64} (h : RR f g p pa s sa sw mf mg mb) : ∀ (t : List jE) (z : Nat × Nat × Nat × (Nat → Int32)), ∃ r : Int32, ∃ f' g' n2' p' pa' s' sa' sw' rp', K_c_named D a f g n2 p pa s sa sw rp t z = some (.inl (some (.int r)), (jX f' g' n2' p' pa' s' sa' sw' rp' t, z)) ∧ ∀ (cx : jCX) (t1 : List jE) (z1 : Nat × Nat × Nat × (Nat → Int32)), ∃ mf' mg' mn' mb' ml', K_m_named D a cx mf mg mn mb ml t1 z1 = some (.inl (some (.int r)), (jXt cx (jY mf' mg' mn' mb' ml' t1), z1)) ∧ RR f' g' p' pa' s' sa' sw' mf' mg' mb' := by
  obtain ⟨C, Sc, T, hP, hC, hS6, -⟩ := RR_ex (n2 := n2) (rp := rp) (mn := mn) (ml := ml) h
  have hS := hP.1.2.2.2.2.1
  have hr := RR_congr h (by intro k hk; simp (disch := omega) only [jup_ne]) (by intro k hk; simp (disch := omega) only [jup_ne]) rfl rfl (by constructor <;> simp (disch := omega) only [jup_ne]) (by constructor <;> simp (disch := omega) only [jup_ne]) (by intro k hk; simp (disch := omega) only [jup_ne]) (jq1.rf) rfl (f' := f) (g' := g) (s' := s) (sa' := sa) (p' := p) (pa' := pa) (sw' := sw) (mf' := jup mf 0 0) (mg' := mg) (mb' := mb)
  intro t z; refine ⟨jfnd (pa (jq sw) 1) a 0 Sc, f, g, n2, p, pa, s, sa, sw, rp, ?_, fun cx t z => ⟨jup mf 0 0, mg, mn, mb, ml, ?_, hr⟩⟩
  · simp only [E_c_named, E_c_named_4, S_p_find hS hS6, jbO_some, jbO_none, jbO_ite, jk_some, jk_none]
  · have hg2 : mg 1 2 = Int32.ofNat Sc := hP.2.1.2.2.1.trans hS
    have hfo := M_found (D := D) (a := 0) (m := Sc) (x := a) (cx := cx) (f := jup mf 0 0) (g := mg) (n := mn) (b := mb) (l := ml) (t := t) (z := z) (by omega)
    have hfo2 : K_m_found D 0 (Int32.ofNat Sc) a cx (jup mf 0 0) mg mn mb ml t z = _ := hfo
    rw [jfnd_congr (nm' := pa (jq sw) 1) (fun i _ hi => by rw [Nat.zero_add]; exact (hP.2.2.2.1 i (by omega)).1)] at hfo2
    simp only [E_m_named, E_m_named_12, hg2, hfo2, jbO_some, jbO_none, jbO_ite, jk_some, jk_none]
theorem A_wind {D : Nat} {a : Int32} {f : Nat → Int32} {g : Nat → Nat → Int32} {n2 : Nat → Nat → Int64} {p : Nat → Nat → Int32} {pa : Nat → Nat → Nat → Int32} {s : Nat → Nat → Int32} {sa : Nat → Nat → Nat → Int32} {sw : Bool} {rp : Value} {mf : Nat → Int32} {mg : Nat → Nat → Int32} {mn : Nat → Nat → Int64} {mb : Nat → Nat → Int32} {ml : Nat → Int64} (h : RR f g p pa s sa sw mf mg mb) : ∀ (t : List jE) (z : Nat × Nat × Nat × (Nat → Int32)), ∃ r : Int32, ∃ f' g' n2' p' pa' s' sa' sw' rp', K_c_wind D a f g n2 p pa s sa sw rp t z = some (.inl (some (.int r)), (jX f' g' n2' p' pa' s' sa' sw' rp' t, z)) ∧ ∀ (cx : jCX) (t1 : List jE) (z1 : Nat × Nat × Nat × (Nat → Int32)), ∃ mf' mg' mn' mb' ml', K_m_wind D a cx mf mg mn mb ml t1 z1 = some (.inl (some (.int r)), (jXt cx (jY mf' mg' mn' mb' ml' t1), z1)) ∧ RR f' g' p' pa' s' sa' sw' mf' mg' mb' := by
  obtain ⟨C, Sc, T, hP, hC, hS6, -, -, hne, hme, -⟩ := RR_ex (n2 := n2) (rp := rp) (mn := mn) (ml := ml) h
  obtain ⟨Wn, hW, hWn⟩ := hP.1.2.2.2.2.2.2.1
  have hr := RR_congr h (by intro k hk; simp (disch := omega) only [jup_ne]) (by intro k hk; simp (disch := omega) only [jup_ne]) rfl rfl (by constructor <;> simp (disch := omega) only [jup_ne]) (by constructor <;> simp (disch := omega) only [jup_ne]) (by intro k hk; simp (disch := omega) only [jup_ne]) (jq1.rf) rfl (f' := f) (g' := g) (s' := s) (sa' := sa) (p' := p) (pa' := pa) (sw' := sw) (mf' := jup mf 0 0) (mg' := mg) (mb' := mb)
  rcases jcases a with ha | ⟨k, hk, rfl⟩
  · intro t z; refine ⟨-1, f, g, n2, p, pa, s, sa, sw, rp, ?_, fun cx t z => ⟨jup mf 0 0, mg, mn, mb, ml, ?_, hr⟩⟩
    · simp only [E_c_wind, ha, if_true]
    · simp only [E_m_wind, ha, if_true]
  · by_cases h9 : 999 < Int32.ofNat k
    · intro t z; refine ⟨-1, f, g, n2, p, pa, s, sa, sw, rp, ?_, fun cx t z => ⟨jup mf 0 0, mg, mn, mb, ml, ?_, hr⟩⟩
      · simp only [E_c_wind, jnonneg hk, h9, if_true, if_false]
      · simp only [E_m_wind, jnonneg hk, h9, if_true, if_false]
    · intro t z; refine ⟨jwnd (p (jq sw)) (pa (jq sw)) (Int32.ofNat k), f, g, n2, p, pa, s, sa, sw, rp, ?_, fun cx t z => ⟨jup mf 0 0, mg, mn, mb, ml, ?_, hr⟩⟩
      · simp only [E_c_wind, E_c_wind_11, jnonneg hk, h9, if_false, S_p_windOf hW hWn, jbO_some, jbO_none, jbO_ite, jk_some, jk_none]
      · have hm16 : (jup mf 0 0) 16 = -1 := by rw [jup_ne (by omega)]; exact hme.1
        have hw := M_windOf (D := D) (dn := k) (cx := cx) (f := jup mf 0 0) (g := mg) (n := mn) (b := mb) (l := ml) (t := t) (z := z) (hP.2.1.2.2.2.2.2.2.1.trans hW) hWn hk (Or.inl hm16)
        have hv : mwnd (jup mf 0 0) mg (Int32.ofNat k) = jwnd (p (jq sw)) (pa (jq sw)) (Int32.ofNat k) := by
          rw [wnd_neu (f := f) (w9 := g 2) hne.2.2.2.2.2.2.2 hm16 hP hk]
          unfold cwnd; rw [if_pos hne.2.2.2.2.2.2.2]
        rw [hv] at hw
        simp only [E_m_wind, E_m_wind_11, jnonneg hk, h9, if_false, hw, jbO_some, jbO_none, jbO_ite, jk_some, jk_none]
