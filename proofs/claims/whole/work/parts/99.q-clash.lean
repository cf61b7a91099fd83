-- CALL BY CALL: clash, the reference and the call
theorem M_clash_25 {D : Nat} {C Sc : Nat} {q : Nat → Int32} {qa : Nat → Nat → Int32} {S : jS} {e0 p0 c0 x1 : Int32} {cx : jCX} {f : Nat → Int32} {g : Nat → Nat → Int32} {n : Nat → Nat → Int64} {b : Nat → Nat → Int32} {l : Nat → Int64} {t : List jE} {z : Nat × Nat × Nat × (Nat → Int32)} (hA : rAt q qa C Sc S e0 p0 c0 1 f g) : ∀ k, k ≤ Sc → (∀ i, i < k → jov q S i = false) → K_m_clash_25 D x1 0 cx f g n b l t z = K_m_clash_25 D x1 (Int32.ofNat k) cx f g n b l t z ∧ (∀ _ : k < Sc, jov q S k = true → K_m_clash_25 D x1 (Int32.ofNat k) cx f g n b l t z = some (.inl (some (.int (if x1 = 0 then g 15 1 else Int32.ofNat k))), (jXt cx (jY f g n b l t), z))) := by
  have hP := hA.2.1
  have hS6 : Sc ≤ 6 := hP.1.2.2.2.2.2.1
  have h12 : g 1 2 = Int32.ofNat Sc := hP.2.1.2.2.1.trans hP.1.2.2.2.2.1
  have h14 : g 1 4 = q 6 := hP.2.1.2.2.2.2.1
  have hone : ∀ k, k < Sc → (jov q S k = false → K_m_clash_25 D x1 (Int32.ofNat k) cx f g n b l t z = K_m_clash_25 D x1 (Int32.ofNat (k + 1)) cx f g n b l t z) ∧ (jov q S k = true → K_m_clash_25 D x1 (Int32.ofNat k) cx f g n b l t z = some (.inl (some (.int (if x1 = 0 then g 15 1 else Int32.ofNat k))), (jXt cx (jY f g n b l t), z))) := by
    intro k hk
    have hlt : Int32.ofNat k < Int32.ofNat Sc := jlt_t (by omega) (by omega)
    have hro := M_isOnRota (D := D) (i := k) (cx := cx) (n := n) (b := b) (l := l) (t := t) (z := z) hA hk
    have hro1 : K_m_isOnRota D 1 (Int32.ofNat k) cx f g n b l t z = _ := hro
    have hsk := M_isOnStrike (D := D) (i := k) (cx := cx) (n := n) (b := b) (l := l) (t := t) (z := z) hA hk
    have hsk1 : K_m_isOnStrike D 1 (Int32.ofNat k) cx f g n b l t z = _ := hsk
    have h22 : g 22 (6 + k) = S.2 4 k := (hA.2.2.1.2.2.2.2.2.2.2.2 k hk).2.2
    have e6 : (6 : Int32) + Int32.ofNat k = Int32.ofNat (6 + k) := jofadd (a := 6)
    rw [L_m_clash_25, h12, if_pos hlt, hro1]
    by_cases hon0 : ((S.2 2 k >>> (S.1 1 &&& 31)) &&& 1) = 0
    · have hov : jov q S k = false := by simp [jov, jbusy, jon, hon0]
      refine ⟨fun _ => ?_, fun hx => by rw [hov] at hx; exact absurd hx (by decide)⟩
      simp only [hon0, if_true, jbO_some, jbO_none, jbO_ite, jk_some, jk_none, E_m_clash_35, E_m_clash_61, jsucc]
    by_cases hst : bt (S.1 2) k = false
    rotate_left
    · have hst2 : bt (S.1 2) k = true := by simpa using hst
      have hst3 : ¬ ((S.1 2 >>> (Int32.ofNat k &&& 31)) &&& 1) = 0 := by rw [jbit0 (by omega)]; exact hst
      have hov : jov q S k = false := by simp [jov, jbusy, hst2]
      refine ⟨fun _ => ?_, fun hx => by rw [hov] at hx; exact absurd hx (by decide)⟩
      simp +decide only [hon0, if_false, jbO_some, jbO_none, jbO_ite, jk_some, jk_none, E_m_clash_35, hsk1, hst3, E_m_clash_40, E_m_clash_61, jsucc]
    have hst3 : ((S.1 2 >>> (Int32.ofNat k &&& 31)) &&& 1) = 0 := by rw [jbit0 (by omega)]; exact hst
    by_cases hlt6 : S.2 4 k < q 6
    · have hov : jov q S k = false := by simp [jov, hlt6]
      refine ⟨fun _ => ?_, fun hx => by rw [hov] at hx; exact absurd hx (by decide)⟩
      simp +decide (disch := omega) only [hon0, if_false, if_true, jbO_some, jbO_none, jbO_ite, jk_some, jk_none, E_m_clash_35, hsk1, hst3, E_m_clash_40, E_m_clash_61, jsucc, e6, jout_f, jclamp, h22, h14, hlt6]
    · have hov : jov q S k = true := by simp [jov, jbusy, jon, hon0, hst, hlt6]
      refine ⟨fun hx => (by rw [hov] at hx; exact absurd hx (by decide)), fun _ => ?_⟩
      simp +decide (disch := omega) only [hon0, if_false, if_true, jbO_some, jbO_none, jbO_ite, jk_some, jk_none, E_m_clash_35, hsk1, hst3, E_m_clash_40, E_m_clash_61, jsucc, e6, jout_f, jclamp, h22, h14, hlt6]
      split <;> rfl
  intro k
  induction k with
  | zero => intro _ _; exact ⟨rfl, fun hk hx => (hone 0 hk).2 hx⟩
  | succ k ih =>
    intro hk hno
    refine ⟨(ih (by omega) (fun i hi => hno i (by omega))).1.trans ((hone k (by omega)).1 (hno k (by omega))), fun hk2 hx => (hone (k + 1) hk2).2 hx⟩
theorem clash_run {D D0 : Nat} {C Sc : Nat} {w9 : Nat → Int32} {x1 : Int32} {f : Nat → Int32} {g : Nat → Nat → Int32} {n2 : Nat → Nat → Int64} {p : Nat → Nat → Int32} {pa : Nat → Nat → Nat → Int32} {s : Nat → Nat → Int32} {sa : Nat → Nat → Nat → Int32} {sw : Bool} {rp : Value} {t : List jE} {z : Nat × Nat × Nat × (Nat → Int32)} (hPl : jPl (p (jq sw)) (pa (jq sw)) C Sc) (hjn : jneu f) (hD0 : D0 < 1000) :
    ∀ (fu h : Nat), h + fu = 12 → ∀ {S : jS} {A' : Nat → Int32} {B' : Nat → Nat → Int32} {d3 : Option Value}, jtm S (12 * D0 + h) → A' 2 = S.1 2 → B' 2 = S.2 2 → (1 ≤ fu → ∀ i, i < Sc → B' 4 i = S.2 4 i) →
    ∃ r A B, K_c_clash_16 D x1 (Int32.ofNat h) d3 f g n2 p pa (jup s 2 A') (jup sa 2 B') sw rp t z = some (.inl (some (.int r)), (jX f g n2 p pa (jup s 2 A) (jup sa 2 B) sw rp t, z)) ∧
      ∀ (cx : jCX) (mf : Nat → Int32) (mg : Nat → Nat → Int32) (mn : Nat → Nat → Int64) (mb : Nat → Nat → Int32) (ml : Nat → Int64) (t1 : List jE) (z1 : Nat × Nat × Nat × (Nat → Int32)) (d2 : Option Value) (e0 p0 c0 : Int32),
        rPl (p (jq sw)) (pa (jq sw)) C Sc mg → rSt C Sc S e0 p0 c0 (mf 19) 1 mg → (mf 16 = -1 ∨ ∃ m, m < 2147483648 ∧ mf 16 = Int32.ofNat m) → rTw f mf Sc → mg 14 0 = Int32.ofNat D0 → (∀ d, d < 2147483648 → mwnd mf mg (Int32.ofNat d) = cwnd f w9 (p (jq sw)) (pa (jq sw)) (Int32.ofNat d)) →
        ∃ y n' g', K_m_clash_14 D x1 d2 cx mf mg mn mb ml t1 z1 = some (.inl (some (.int r)), (jXt cx (jY (jup mf 15 y) g' n' mb ml t1), z1)) ∧ jfo 1 mg g' := by
  have hS6 : Sc ≤ 6 := hPl.2.2.2.2.2.1
  have hS : p (jq sw) 3 = Int32.ofNat Sc := hPl.2.2.2.2.1
  intro fu
  induction fu with
  | zero =>
    intro h hh S A' B' d3 hT hA hB hc
    refine ⟨-2, A', B', ?_, ?_⟩
    · rw [show h = 12 by omega, L_c_clash_16, if_neg (by decide)]
    · intro cx mf mg mn mb ml t1 z1 d2 e0 p0 c0 hP hst hfr hTw h140 hW
      refine ⟨mf 15, mn, mg, ?_, jfo.rf⟩
      have h141 : mg 14 1 = Int32.ofNat (D0 + 1) := by rw [hst.1, hT.1]; congr 1; omega
      have hne : ¬ Int32.ofNat (D0 + 1) = Int32.ofNat D0 := by rw [jeqn (by omega) (by omega)]; omega
      rw [L_m_clash_14, h141, h140, if_neg hne, jup_self]
  | succ fu ih =>
    intro h hh S A' B' d3 hT hA hB hc
    have hc' := hc (by omega)
    have h1 : S.1 1 = Int32.ofNat h := by rw [hT.2]; congr 1; omega
    have h0 : S.1 0 = Int32.ofNat D0 := by rw [hT.1]; congr 1; omega
    have hAt : ∀ {mf mg e0 p0 c0}, rPl (p (jq sw)) (pa (jq sw)) C Sc mg → rSt C Sc S e0 p0 c0 (mf 19) 1 mg → (mf 16 = -1 ∨ ∃ m, m < 2147483648 ∧ mf 16 = Int32.ofNat m) → rAt (p (jq sw)) (pa (jq sw)) C Sc S e0 p0 c0 1 mf mg := fun hP hst hfr => ⟨by omega, hP, hst, ⟨D0, h0, by omega⟩, ⟨h, h1, by omega⟩, hfr⟩
    rcases S_clash_hour (D := D) (h := h) (Sc := Sc) (S := S) (A' := A') (B' := B') (x1 := x1) (d3 := d3) (f := f) (g := g) (n2 := n2) (p := p) (pa := pa) (s := s) (sa := sa) (sw := sw) (rp := rp) (t := t) (z := z) hS hS6 hA hB hc' h1 (by omega) with ⟨i, A, B, hi, hov, hno, he⟩ | ⟨hno, B, d, he, hB2, hB4⟩
    · refine ⟨_, A, B, he, ?_⟩
      intro cx mf mg mn mb ml t1 z1 d2 e0 p0 c0 hP hst hfr hTw h140 hW
      have h141 : mg 14 1 = Int32.ofNat D0 := hst.1.trans h0
      have h151 : mg 15 1 = Int32.ofNat h := hst.2.1.trans h1
      obtain ⟨m1, m2⟩ := M_clash_25 (D := D) (x1 := x1) (cx := cx) (n := mn) (b := mb) (l := ml) (t := t1) (z := z1) (hAt hP hst hfr) i (by omega) (fun j hj => hno j hj)
      refine ⟨mf 15, mn, mg, ?_, jfo.rf⟩
      rw [L_m_clash_14, h141, h140, if_pos rfl, m1, m2 hi hov, h151, jup_self]
    · -- the hour goes by
      generalize hS' : cS f (p (jq sw)) (pa (jq sw)) (cwnd f w9 (p (jq sw)) (pa (jq sw)) (S.1 0)) C Sc S = S'
      have hT' : jtm S' (12 * D0 + (h + 1)) := by rw [← hS']; exact cS_tm hT
      have hA2 : (jup A' 1 (Int32.ofNat h)) 2 = S'.1 2 := by rw [jup_ne (by omega), hA, ← hS', cS_12.1]
      have hB2' : B 2 = S'.2 2 := by rw [hB2, hB, ← hS', cS_r]
      have hc2 : 1 ≤ fu → ∀ i, i < Sc → B 4 i = S'.2 4 i := by
        intro hfu i hi
        rw [hB4 i hi, ← hS', cS_4 h1 (by omega), cfl_at hi]
        by_cases hb : jbusy S i = true
        · rw [if_pos hb, if_pos ((cflap_busy hjn (by omega) (hno i hi)).mpr hb)]
        · rw [if_neg hb, if_neg (fun hx => hb ((cflap_busy hjn (by omega) (hno i hi)).mp hx))]
      obtain ⟨r, A, Bf, hcr, hmr⟩ := ih (h + 1) (by omega) (S := S') (A' := jup A' 1 (Int32.ofNat h)) (B' := B) (d3 := d) hT' hA2 hB2' hc2
      refine ⟨r, A, Bf, he.trans hcr, ?_⟩
      intro cx mf mg mn mb ml t1 z1 d2 e0 p0 c0 hP hst hfr hTw h140 hW
      have h141 : mg 14 1 = Int32.ofNat D0 := hst.1.trans h0
      have h12 : mg 1 2 = Int32.ofNat Sc := hP.2.1.2.2.1.trans hS
      obtain ⟨m1, -⟩ := M_clash_25 (D := D) (x1 := x1) (cx := cx) (n := mn) (b := mb) (l := ml) (t := t1) (z := z1) (hAt hP hst hfr) Sc (Nat.le_refl Sc) hno
      obtain ⟨y, n', g', hp, hfo, -, hst2⟩ := M_passes (D := D) (tf := f) (cx := cx) (n := mn) (b := mb) (l := ml) (t := t1) (z := z1) (hAt hP hst hfr) hTw
      have hp1 : K_m_passes D 1 cx mf mg mn mb ml t1 z1 = _ := hp
      have hwv : mwnd mf mg (S.1 0) = cwnd f w9 (p (jq sw)) (pa (jq sw)) (S.1 0) := by rw [h0]; exact hW D0 (by omega)
      rw [hwv, hS'] at hst2
      obtain ⟨y2, n2', g2, hm2, hfo2⟩ := hmr cx (jup mf 15 y) g' n' mb ml t1 z1 (some (.int (Int32.ofNat Sc))) e0 p0 c0 (hfo.pl hP) (by rw [jup_ne (by omega)]; exact hst2) (by rw [jup_ne (by omega)]; exact hfr) (rTw_f hTw) (by rw [hfo.2.1 14 (by omega) (by omega) 0 (by omega)]; exact h140) (fun d hd => by rw [mwnd_f, mwnd_g hfo]; exact hW d hd)
      rw [jup_jup] at hm2
      refine ⟨y2, n2', g2, ?_, hfo.tr hfo2⟩
      rw [L_m_clash_14, h141, h140, if_pos rfl, m1, L_m_clash_25, h12, if_neg (jlt_n (by omega) (by omega)), hp1]
      simp only [jbO_some, jbO_none, jbO_ite, jk_some, jk_none, E_m_clash_66]
      exact hm2
theorem A_clash {D : Nat} {a : Int32} {f : Nat → Int32} {g : Nat → Nat → Int32} {n2 : Nat → Nat → Int64} {p : Nat → Nat → Int32} {pa : Nat → Nat → Nat → Int32} {s : Nat → Nat → Int32} {sa : Nat → Nat → Nat → Int32} {sw : Bool} {rp : Value} {mf : Nat → Int32} {mg : Nat → Nat → Int32} {mn : Nat → Nat → Int64} {mb : Nat → Nat → Int32} {ml : Nat → Int64} (h : RR f g p pa s sa sw mf mg mb) : ∀ (t : List jE) (z : Nat × Nat × Nat × (Nat → Int32)), ∃ r : Int32, ∃ f' g' n2' p' pa' s' sa' sw' rp', K_c_clash D a f g n2 p pa s sa sw rp t z = some (.inl (some (.int r)), (jX f' g' n2' p' pa' s' sa' sw' rp' t, z)) ∧ ∀ (cx : jCX) (t1 : List jE) (z1 : Nat × Nat × Nat × (Nat → Int32)), ∃ mf' mg' mn' mb' ml', K_m_clash D a cx mf mg mn mb ml t1 z1 = some (.inl (some (.int r)), (jXt cx (jY mf' mg' mn' mb' ml' t1), z1)) ∧ RR f' g' p' pa' s' sa' sw' mf' mg' mb' := by
  intro t z
  obtain ⟨C, Sc, T, hP, hC, hS6, hT, hT2, hjn, hmn, hfr, hTw, hAt, hW, -, hm15⟩ := RR_ex (n2 := n2) (rp := rp) (mn := mn) (ml := ml) h
  have hr := RR_congr h (by intro k hk; simp (disch := omega) only [jup_ne]) (by intro k hk; simp (disch := omega) only [jup_ne]) rfl rfl (by constructor <;> simp (disch := omega) only [jup_ne]) (by constructor <;> simp (disch := omega) only [jup_ne]) (by intro k hk; simp (disch := omega) only [jup_ne]) (jq1.rf) rfl (f' := f) (g' := g) (s' := s) (sa' := sa) (p' := p) (pa' := pa) (sw' := sw) (mf' := jup mf 0 0) (mg' := mg) (mb' := mb)
  by_cases hbad : ¬ a = 0 ∧ ¬ a = 1
  · have hwr : a < 0 ∨ 1 < a := by
      rcases jcases a with hneg | ⟨k, hk, rfl⟩
      · exact Or.inl hneg
      · refine Or.inr ?_
        have h0 := hbad.1; have h1 := hbad.2
        rw [show (1 : Int32) = Int32.ofNat 1 from rfl, jltn (by omega) hk]
        rw [show (0 : Int32) = Int32.ofNat 0 from rfl, jeqn hk (by omega)] at h0
        rw [show (1 : Int32) = Int32.ofNat 1 from rfl, jeqn hk (by omega)] at h1
        omega
    refine ⟨-1, f, g, n2, p, pa, s, sa, sw, rp, ?_, fun cx t z => ⟨jup mf 0 0, mg, mn, mb, ml, ?_, hr⟩⟩
    · simp only [E_c_clash, hbad.1, hbad.2, if_false]
    · rw [E_m_clash]
      rcases hwr with hwr | hwr
      · rw [if_pos hwr]
      · rw [if_pos hwr]; split <;> rfl
  have hgood : a = 0 ∨ a = 1 := by
    by_cases h0 : a = 0
    · exact Or.inl h0
    · by_cases h1 : a = 1
      · exact Or.inr h1
      · exact absurd ⟨h0, h1⟩ hbad
  have ha0 : ¬ a < 0 := by rcases hgood with q | q <;> rw [q] <;> decide
  have ha1 : ¬ 1 < a := by rcases hgood with q | q <;> rw [q] <;> decide
  have hmod : T % 12 < 12 := Nat.mod_lt T (by omega)
  generalize hTS : jtry (s 2, sa 2) (s 0, sa 0) = TS
  have hT' : jtm TS (12 * (T / 12) + T % 12) := by rw [Nat.div_add_mod, ← hTS]; exact jtry_tm hT
  obtain ⟨r, A, B, hc, hm⟩ := clash_run (D := D) (D0 := T / 12) (C := C) (Sc := Sc) (w9 := g 2) (x1 := a) (f := f) (g := g) (n2 := n2) (p := p) (pa := pa) (s := s) (sa := sa) (sw := sw) (rp := rp) (t := t) (z := z) hP.1 hjn (by omega) (12 - T % 12) (T % 12) (by omega) (S := TS) (A' := TS.1) (B' := TS.2) (d3 := none) hT' rfl rfl (fun _ _ _ => rfl)
  have hf1 : K_s_follow20 D f g n2 p pa s sa sw rp t z = some (.inl none, (jX f g n2 p pa (jup s 2 TS.1) (jup sa 2 TS.2) sw rp t, z)) := by rw [S_s_follow20, hTS]
  have ht1 : (jup s 2 TS.1) 0 1 = Int32.ofNat (T % 12) := by rw [jup_ne (by omega)]; exact hT.2
  refine ⟨r, f, g, n2, p, pa, jup s 2 A, jup sa 2 B, sw, rp, ?_, fun cx t1 z1 => ?_⟩
  · have : K_c_clash D a f g n2 p pa s sa sw rp t z = K_c_clash_7 D a none none f g n2 p pa s sa sw rp t z := by
      rw [E_c_clash]
      rcases hgood with q | q
      · rw [if_pos q]
      · rw [if_pos q]; split <;> rfl
    rw [this, E_c_clash_7, hf1]
    simp only [jbO_some, jbO_none, jbO_ite, jk_some, jk_none, E_c_clash_12, ht1]
    exact hc
  · obtain ⟨g1, hcp, hfo1, hc10⟩ := M_copies (D := D) (A := 1) (B := 0) (cx := cx) (f := jup mf 0 0) (g := mg) (n := mn) (b := mb) (l := ml) (t := t1) (z := z1) (by omega) (by omega) (by omega)
    have hcp1 : K_m_copies D 1 0 cx (jup mf 0 0) mg mn mb ml t1 z1 = _ := hcp
    obtain ⟨y, n', g', hk, hfo2⟩ := hm cx (jup mf 0 0) g1 mn mb ml t1 z1 none (s 0 3) (s 0 4) (s 0 5) (hfo1.pl hP) (by rw [← hTS]; exact jtry_st hC hS6 (hc10.st hC hS6 hAt.2.2.1)) hAt.2.2.2.2.2 hTw (by rw [hfo1.2.1 14 (by omega) (by omega) 0 (by omega)]; exact hfr.1.1.trans hT.1) (fun d hd => by rw [mwnd_g hfo1]; have := hW (g 2) 0 d hd; rw [mwnd_f] at this; exact this)
    refine ⟨jup (jup mf 0 0) 15 y, g', n', mb, ml, ?_, RR_congr h (by intro k hk; simp (disch := omega) only [jup_ne]) (by intro k hk; simp (disch := omega) only [jup_ne]) rfl rfl (by constructor <;> simp (disch := omega) only [jup_ne]) (by constructor <;> simp (disch := omega) only [jup_ne]) (by intro k hk; simp (disch := omega) only [jup_ne]) (jq1.of (hfo1.tr hfo2)) rfl (f' := f) (g' := g) (s' := jup s 2 A) (sa' := jup sa 2 B) (p' := p) (pa' := pa) (sw' := sw) (mf' := jup (jup mf 0 0) 15 y) (mg' := g') (mb' := mb)⟩
    rw [E_m_clash, if_neg ha0, if_neg ha1, hcp1]
    simp only [jbO_some, jbO_none, jbO_ite, jk_some, jk_none, F_m_clash_14]
    exact hk
