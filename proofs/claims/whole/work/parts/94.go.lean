-- CALL BY CALL: go
theorem jofdiv {a b : Nat} (ha : a < 2147483648) (hb : b < 2147483648) : Int32.ofNat a / Int32.ofNat b = Int32.ofNat (a / b) := by
  apply Int32.toInt_inj.mp
  have hd : a / b ≤ a := Nat.div_le_self a b
  rw [Int32.toInt_div, jtoInt ha, jtoInt hb, jtoInt (by omega)]
  rw [← Int.ofNat_tdiv]
  apply Int.bmod_eq_of_le
  · have : (0 : Int) ≤ ((a / b : Nat) : Int) := Int.natCast_nonneg _
    omega
  · have : ((a / b : Nat) : Int) ≤ (a : Int) := by exact_mod_cast hd
    omega
theorem jofdivl {a b : Nat} (ha : a < 2147483648) (hb : b < 2147483648) : Int32.ofNat a / (no_index (OfNat.ofNat b)) = Int32.ofNat (a / b) := jofdiv ha hb
theorem jpt99_rng (v : Int64) : ∃ k : Nat, k < 100 ∧ jpt99 v = Int32.ofNat k := by
  unfold jpt99
  generalize hw : (if (if v < 99 then v else 99) < 0 then (0 : Int64) else (if v < 99 then v else 99)) = w
  have h0 : 0 ≤ w.toInt ∧ w.toInt ≤ 99 := by
    rw [← hw]
    have e99 : (99 : Int64).toInt = 99 := by decide
    have e0 : (0 : Int64).toInt = 0 := by decide
    by_cases h9 : v < 99
    · rw [if_pos h9]
      by_cases hz : v < 0
      · rw [if_pos hz, e0]; omega
      · rw [if_neg hz]
        rw [Int64.lt_iff_toInt_lt] at h9 hz
        rw [e99] at h9; rw [e0] at hz; omega
    · rw [if_neg h9, if_neg (by decide), e99]; omega
  refine ⟨w.toInt.toNat, by omega, ?_⟩
  apply Int32.toInt_inj.mp
  rw [Int64.toInt_toInt32, jtoInt (by omega)]
  rw [Int.bmod_eq_of_le (by omega) (by omega)]
  omega
theorem cmeal_rng {q : Nat → Int32} {qa : Nat → Nat → Int32} {a : Nat → Int32} {aa : Nat → Nat → Int32} {wv : Int32} {c r : Nat} (hq : ∃ r : Nat, r < 100 ∧ q 7 = Int32.ofNat r) (hr : r < 100) (hc : aa 0 c = Int32.ofNat r) : ∃ m, m ≤ r ∧ cmeal q qa a aa wv c = Int32.ofNat m := by
  have hx : ∀ x : Int32, (∃ k : Nat, k < 100 ∧ x = Int32.ofNat k) → ∃ m, m ≤ r ∧ (if x < aa 0 c then x else aa 0 c) = Int32.ofNat m := by
    rintro x ⟨k, hk, rfl⟩
    rw [hc]
    by_cases hlt : k < r
    · rw [if_pos (jlt_t hlt (by omega))]; exact ⟨k, by omega, rfl⟩
    · rw [if_neg (jlt_n (by omega) (by omega))]; exact ⟨r, Nat.le_refl r, rfl⟩
  unfold cmeal
  cases ceatl q qa a aa wv c with
  | some v => exact hx _ (jpt99_rng v)
  | none => exact hx _ hq
theorem caim_lt {tf a : Nat → Int32} {aa : Nat → Nat → Int32} {C c : Nat} (h : caim tf a aa C = some c) : c < C := caimk_lt h
theorem ctick_12 {S : jS} : (ctick S).1 2 = S.1 2 ∧ (ctick S).2 3 = S.2 3 ∧ (ctick S).2 0 = S.2 0 := by
  unfold ctick
  split
  · refine ⟨?_, rfl, rfl⟩; dsimp only; rw [jup_ne (by omega)]
  · refine ⟨?_, ?_, ?_⟩ <;> dsimp only <;> simp (disch := omega) only [jup_ne]
theorem cS_12 {tf q : Nat → Int32} {qa : Nat → Nat → Int32} {wv : Int32} {C Sc : Nat} {S : jS} : (cS tf q qa wv C Sc S).1 2 = S.1 2 ∧ (cS tf q qa wv C Sc S).2 3 = S.2 3 := by
  unfold cS cS3
  rw [ctick_12.1, ctick_12.2.1]
  dsimp only
  rw [jup_ne (by omega)]
  unfold cS2
  split
  · unfold cS1; refine ⟨?_, ?_⟩ <;> dsimp only <;> rw [jup_ne (by omega)]
  · split
    · unfold cS1; refine ⟨?_, ?_⟩ <;> dsimp only <;> rw [jup_ne (by omega), jup_ne (by omega)]
    · unfold cS1; refine ⟨?_, ?_⟩ <;> dsimp only
      · rw [jup_ne (by omega), jup_ne (by omega)]
      · rw [jup_ne (by omega)]
theorem cS_cr {tf q : Nat → Int32} {qa : Nat → Nat → Int32} {wv : Int32} {C Sc : Nat} {S : jS} (hq : ∃ r : Nat, r < 100 ∧ q 7 = Int32.ofNat r) (h : jCr C S) : jCr C (cS tf q qa wv C Sc S) := by
  have h1 : (cS1 tf q qa wv Sc S).2 0 = S.2 0 := by unfold cS1; dsimp only; rw [jup_ne (by omega)]
  have hkey : (cS tf q qa wv C Sc S).2 0 = S.2 0 ∨ ∃ c r m, c < C ∧ r < 100 ∧ m ≤ r ∧ (cS tf q qa wv C Sc S).2 0 = jup (S.2 0) c (Int32.ofNat (r - m)) := by
    unfold cS cS3
    rw [ctick_12.2.2]
    dsimp only
    rw [jup_ne (by omega)]
    generalize haim : caim tf S.1 S.2 C = cm
    unfold cS2
    cases cm with
    | none => exact Or.inl h1
    | some c =>
      dsimp only
      split
      · refine Or.inr ?_
        have hc := caim_lt haim
        obtain ⟨r, hr, hrc⟩ := h.1 c hc
        obtain ⟨m, hm, hme⟩ := cmeal_rng (q := q) (qa := qa) (a := (cS1 tf q qa wv Sc S).1) (aa := (cS1 tf q qa wv Sc S).2) (wv := wv) (c := c) hq hr (by rw [h1]; exact hrc)
        refine ⟨c, r, m, hc, hr, hm, ?_⟩
        dsimp only
        rw [jup_same, hme, h1, hrc, ← Int32.ofNat_sub r m hm]
      · exact Or.inl h1
  rcases hkey with hk | ⟨c, r, m, hc, hr, hm, hk⟩
  · unfold jCr; rw [hk]; exact h
  · unfold jCr
    rw [hk]
    refine ⟨fun x hx => ?_, fun x hx hx2 => ?_⟩
    · by_cases hxc : x = c
      · subst hxc; rw [jup_same]; exact ⟨r - m, by omega, rfl⟩
      · rw [jup_ne hxc]; exact h.1 x hx
    · rw [jup_ne (by omega)]; exact h.2 x hx hx2
theorem cN_keep {tf w9 q : Nat → Int32} {qa : Nat → Nat → Int32} {C Sc : Nat} {S : jS} (hq : ∃ r : Nat, r < 100 ∧ q 7 = Int32.ofNat r) (h : jCr C S) : ∀ n, (cN tf w9 q qa C Sc S n).1 2 = S.1 2 ∧ (cN tf w9 q qa C Sc S n).2 3 = S.2 3 ∧ jCr C (cN tf w9 q qa C Sc S n)
  | 0 => ⟨rfl, rfl, h⟩
  | n + 1 => ⟨cS_12.1.trans (cN_keep hq h n).1, cS_12.2.trans (cN_keep hq h n).2.1, cS_cr hq (cN_keep hq h n).2.2⟩
theorem rFr_go {tf w9 q : Nat → Int32} {qa : Nat → Nat → Int32} {C Sc F T n : Nat} {S : jS} {mg g' : Nat → Nat → Int32} (hq : ∃ r : Nat, r < 100 ∧ q 7 = Int32.ofNat r) (h : rFr C Sc S F mg) (hT : jtm S T) (hn : T + n < 12000) (h19 : g' 19 = mg 19) (hs : rSt C Sc (cN tf w9 q qa C Sc S n) 0 0 0 (-1) F g') : rFr C Sc (cN tf w9 q qa C Sc S n) F g' := by
  obtain ⟨-, h2, -, h4, h5⟩ := h
  have hk := cN_keep (tf := tf) (w9 := w9) (q := q) (qa := qa) (C := C) (Sc := Sc) hq h4 n
  refine ⟨hs, ?_, ⟨T + n, cN_tm hT n, hn⟩, hk.2.2, ?_⟩
  · rw [h19, hk.1]; exact h2
  · unfold jOth; rw [hk.1, hk.2.1]; exact h5
theorem S_c_go_30 {D T n : Nat} {C Sc : Nat} {f : Nat → Int32} {g : Nat → Nat → Int32} {n2 : Nat → Nat → Int64} {p : Nat → Nat → Int32} {pa : Nat → Nat → Nat → Int32} {s : Nat → Nat → Int32} {sa : Nat → Nat → Nat → Int32} {sw : Bool} {rp : Value} {t : List jE} {z : Nat × Nat × Nat × (Nat → Int32)} (hT : jtm (s 0, sa 0) T) (hPl : jPl (p (jq sw)) (pa (jq sw)) C Sc) (hm : f 15 < 0) (hn : n < 100) :
    ∃ n2', K_c_go_30 D (Int32.ofNat n) 0 f g n2 p pa s sa sw rp t z = some (.inl (some (.int ((cN f (g 2) (p (jq sw)) (pa (jq sw)) C Sc (s 0, sa 0) n).1 1))), (jX f g n2' p pa (jup s 0 (cN f (g 2) (p (jq sw)) (pa (jq sw)) C Sc (s 0, sa 0) n).1) (jup sa 0 (cN f (g 2) (p (jq sw)) (pa (jq sw)) C Sc (s 0, sa 0) n).2) sw rp t, z)) := by
  have key : ∀ k, k ≤ n → ∃ n2', K_c_go_30 D (Int32.ofNat n) 0 f g n2 p pa s sa sw rp t z = K_c_go_30 D (Int32.ofNat n) (Int32.ofNat k) f g n2' p pa (jup s 0 (cN f (g 2) (p (jq sw)) (pa (jq sw)) C Sc (s 0, sa 0) k).1) (jup sa 0 (cN f (g 2) (p (jq sw)) (pa (jq sw)) C Sc (s 0, sa 0) k).2) sw rp t z := by
    intro k
    induction k with
    | zero =>
      intro _
      refine ⟨n2, ?_⟩
      simp only [cN, jup_self]; rfl
    | succ k ih =>
      intro hk
      obtain ⟨n2', he⟩ := ih (by omega)
      obtain ⟨n3, hp⟩ := S_h_pass0 (D := D) (j := 0) (T := T + k) (f := f) (g := g) (n2 := n2') (p := p) (pa := pa) (s := jup s 0 (cN f (g 2) (p (jq sw)) (pa (jq sw)) C Sc (s 0, sa 0) k).1) (sa := jup sa 0 (cN f (g 2) (p (jq sw)) (pa (jq sw)) C Sc (s 0, sa 0) k).2) (sw := sw) (rp := rp) (t := t) (z := z) (by omega) (by rw [jup_same, jup_same]; exact cN_tm hT k) hPl hm
      rw [jup_same, jup_same] at hp
      refine ⟨n3, ?_⟩
      rw [he, L_c_go_30, if_pos (jlt_t (by omega) (by omega)), hp]
      simp only [jbO_some, jbO_none, jbO_ite, jk_some, jk_none, E_c_go_38, jsucc, jup_jup]
      rfl
  obtain ⟨n2', he⟩ := key n (Nat.le_refl n)
  refine ⟨n2', ?_⟩
  rw [he, L_c_go_30, if_neg (jlt_n (by omega) (by omega)), jup_same]
theorem M_go_32 {D T n0 : Nat} {C Sc : Nat} {tf w9 q : Nat → Int32} {qa : Nat → Nat → Int32} {S : jS} {cx : jCX} {f : Nat → Int32} {g : Nat → Nat → Int32} {n : Nat → Nat → Int64} {b : Nat → Nat → Int32} {l : Nat → Int64} {t : List jE} {z : Nat × Nat × Nat × (Nat → Int32)} (hP : rPl q qa C Sc g) (hS : rSt C Sc S 0 0 0 (f 19) 0 g) (hfr : f 16 = -1 ∨ ∃ m, m < 2147483648 ∧ f 16 = Int32.ofNat m) (hTw : rTw tf f Sc) (hT : jtm S T) (hT2 : T < 100000) (hn : n0 < 100)
    (hW : ∀ d, d < 2147483648 → mwnd f g (Int32.ofNat d) = cwnd tf w9 q qa (Int32.ofNat d)) :
    ∃ y n' g', K_m_go_32 D (Int32.ofNat n0) 0 cx f g n b l t z = some (.inl (some (.int ((cN tf w9 q qa C Sc S n0).1 1))), (jXt cx (jY (jup f 15 y) g' n' b l t), z)) ∧ jfo 0 g g' ∧ g' 19 = g 19 ∧ rSt C Sc (cN tf w9 q qa C Sc S n0) 0 0 0 (f 19) 0 g' := by
  have key : ∀ k, k ≤ n0 → ∃ y n' g', K_m_go_32 D (Int32.ofNat n0) 0 cx f g n b l t z = K_m_go_32 D (Int32.ofNat n0) (Int32.ofNat k) cx (jup f 15 y) g' n' b l t z ∧ jfo 0 g g' ∧ g' 19 = g 19 ∧ rSt C Sc (cN tf w9 q qa C Sc S k) 0 0 0 (f 19) 0 g' := by
    intro k
    induction k with
    | zero =>
      intro _
      refine ⟨f 15, n, g, ?_, jfo.rf, rfl, hS⟩
      rw [jup_self]; rfl
    | succ k ih =>
      intro hk
      obtain ⟨y, n1, g1, he, hfo, h19, hst⟩ := ih (by omega)
      have htm := cN_tm (tf := tf) (w9 := w9) (q := q) (qa := qa) (C := C) (Sc := Sc) hT k
      have hAt : rAt q qa C Sc (cN tf w9 q qa C Sc S k) 0 0 0 0 (jup f 15 y) g1 := by
        refine ⟨by omega, hfo.pl hP, ?_, ⟨_, htm.1, by omega⟩, ⟨_, htm.2, Nat.mod_lt _ (by omega)⟩, ?_⟩
        · rw [jup_ne (by omega)]; exact hst
        · rw [jup_ne (by omega)]; exact hfr
      obtain ⟨y2, n2, g2, hp, hfo2, h192, hst2⟩ := M_passes (D := D) (tf := tf) (cx := cx) (n := n1) (b := b) (l := l) (t := t) (z := z) hAt (rTw_f (y := y) hTw)
      have hwv : mwnd (jup f 15 y) g1 ((cN tf w9 q qa C Sc S k).1 0) = cwnd tf w9 q qa ((cN tf w9 q qa C Sc S k).1 0) := by
        rw [mwnd_f, mwnd_g hfo, htm.1]
        exact hW _ (by omega)
      rw [hwv, jup_ne (by omega)] at hst2
      rw [jup_jup] at hp
      have hp1 : K_m_passes D 0 cx (jup f 15 y) g1 n1 b l t z = _ := hp
      refine ⟨y2, n2, g2, ?_, hfo.tr hfo2, h192.trans h19, hst2⟩
      rw [he, L_m_go_32, if_pos (jlt_t (by omega) (by omega)), hp1]
      simp only [jbO_some, jbO_none, jbO_ite, jk_some, jk_none, E_m_go_38, jsucc]
  obtain ⟨y, n1, g1, he, hfo, h19, hst⟩ := key n0 (Nat.le_refl n0)
  refine ⟨y, n1, g1, ?_, hfo, h19, hst⟩
  rw [he, L_m_go_32, if_neg (jlt_n (by omega) (by omega)), hst.2.1]
theorem jPl_inj {q : Nat → Int32} {qa : Nat → Nat → Int32} {C Sc C' Sc' : Nat} (h : jPl q qa C Sc) (h' : jPl q qa C' Sc') : C = C' ∧ Sc = Sc' := by
  have e1 := h.1.symm.trans h'.1
  have e2 := h.2.2.2.2.1.symm.trans h'.2.2.2.2.1
  have a1 := h.2.1; have a2 := h'.2.1
  have b1 := h.2.2.2.2.2.1; have b2 := h'.2.2.2.2.2.1
  rw [jeqn (by omega) (by omega)] at e1 e2
  exact ⟨e1, e2⟩
theorem A_go {D : Nat} {a : Int32} {f : Nat → Int32} {g : Nat → Nat → Int32} {n2 : Nat → Nat → Int64} {p : Nat → Nat → Int32} {pa : Nat → Nat → Nat → Int32} {s : Nat → Nat → Int32} {sa : Nat → Nat → Nat → Int32} {sw : Bool} {rp : Value} {mf : Nat → Int32} {mg : Nat → Nat → Int32} {mn : Nat → Nat → Int64} {mb : Nat → Nat → Int32} {ml : Nat → Int64} (h : RR f g p pa s sa sw mf mg mb) : ∀ (t : List jE) (z : Nat × Nat × Nat × (Nat → Int32)), ∃ r : Int32, ∃ f' g' n2' p' pa' s' sa' sw' rp', K_c_go D a f g n2 p pa s sa sw rp t z = some (.inl (some (.int r)), (jX f' g' n2' p' pa' s' sa' sw' rp' t, z)) ∧ ∀ (cx : jCX) (t1 : List jE) (z1 : Nat × Nat × Nat × (Nat → Int32)), ∃ mf' mg' mn' mb' ml', K_m_go D a cx mf mg mn mb ml t1 z1 = some (.inl (some (.int r)), (jXt cx (jY mf' mg' mn' mb' ml' t1), z1)) ∧ RR f' g' p' pa' s' sa' sw' mf' mg' mb' := by
  intro t z
  obtain ⟨C, Sc, T, hP, hC, hS6, hT, hT2, hjn, hmn, hfr, hTw, hAt, hW, -, hm15⟩ := RR_ex (n2 := n2) (rp := rp) (mn := mn) (ml := ml) h
  have hr := RR_congr h (by intro k hk; simp (disch := omega) only [jup_ne]) (by intro k hk; simp (disch := omega) only [jup_ne]) rfl rfl (by constructor <;> simp (disch := omega) only [jup_ne]) (by constructor <;> simp (disch := omega) only [jup_ne]) (by intro k hk; simp (disch := omega) only [jup_ne]) (jq1.rf) rfl (f' := f) (g' := g) (s' := s) (sa' := sa) (p' := p) (pa' := pa) (sw' := sw) (mf' := jup mf 0 0) (mg' := mg) (mb' := mb)
  by_cases h0 : a < 0
  · refine ⟨-1, f, g, n2, p, pa, s, sa, sw, rp, ?_, fun cx t z => ⟨jup mf 0 0, mg, mn, mb, ml, ?_, hr⟩⟩
    · simp only [E_c_go, h0, if_true]
    · simp only [E_m_go, h0, if_true]
  by_cases h99 : 99 < a
  · refine ⟨-1, f, g, n2, p, pa, s, sa, sw, rp, ?_, fun cx t z => ⟨jup mf 0 0, mg, mn, mb, ml, ?_, hr⟩⟩
    · simp only [E_c_go, h0, h99, if_true, if_false]
    · simp only [E_m_go, h0, h99, if_true, if_false]
  obtain ⟨n, hn, rfl⟩ : ∃ n, n < 100 ∧ a = Int32.ofNat n := by
    rcases jcases a with hneg | ⟨k, hk, rfl⟩
    · exact absurd hneg h0
    · refine ⟨k, ?_, rfl⟩
      rw [show (99 : Int32) = Int32.ofNat 99 from rfl, jltn (by omega) hk] at h99; omega
  have hmod : T % 12 < 12 := Nat.mod_lt T (by omega)
  have t0 : s 0 0 = Int32.ofNat (T / 12) := hT.1
  have t1 : s 0 1 = Int32.ofNat (T % 12) := hT.2
  have m0 : mg 14 0 = Int32.ofNat (T / 12) := hfr.1.1.trans t0
  have m1 : mg 15 0 = Int32.ofNat (T % 12) := hfr.1.2.1.trans t1
  have e1 : ((s 0 0 * 12 + s 0 1) + Int32.ofNat n) / 12 = Int32.ofNat ((T + n) / 12) := by
    have hr : T / 12 * 12 + T % 12 = T := by omega
    rw [t0, t1, show (12 : Int32) = Int32.ofNat 12 from rfl, jofmul, jofadd, hr, jofadd, jofdiv (by omega) (by omega)]
  have e2 : mg 14 0 + (mg 15 0 + Int32.ofNat n) / 12 = Int32.ofNat ((T + n) / 12) := by
    have hr : T / 12 + (T % 12 + n) / 12 = (T + n) / 12 := by omega
    rw [m0, m1, show (12 : Int32) = Int32.ofNat 12 from rfl, jofadd, jofdiv (by omega) (by omega), jofadd, hr]
  by_cases h999 : 999 < (T + n) / 12
  · have hlt : (999 : Int32) < Int32.ofNat ((T + n) / 12) := by rw [show (999 : Int32) = Int32.ofNat 999 from rfl, jltn (by omega) (by omega)]; exact h999
    refine ⟨-1, f, g, n2, p, pa, s, sa, sw, rp, ?_, fun cx t z => ⟨jup mf 0 0, mg, mn, mb, ml, ?_, hr⟩⟩
    · simp only [E_c_go, h0, h99, if_false, e1, hlt, if_true]
    · simp only [E_m_go, h0, h99, if_false, e2, hlt, if_true]
  have hnl : ¬ (999 : Int32) < Int32.ofNat ((T + n) / 12) := by rw [show (999 : Int32) = Int32.ofNat 999 from rfl, jltn (by omega) (by omega)]; exact h999
  by_cases hn0 : n = 0
  · subst hn0
    refine ⟨s 0 1, f, g, n2, p, pa, s, sa, sw, rp, ?_, fun cx t z => ⟨jup mf 0 0, mg, mn, mb, ml, ?_, hr⟩⟩
    · simp only [E_c_go, h0, h99, if_false, e1, hnl, E_c_go_28, L_c_go_30, show ¬ ((0 : Int32) < Int32.ofNat 0) by decide]
    · simp only [E_m_go, h0, h99, if_false, e2, hnl, E_m_go_30, L_m_go_32, show ¬ ((0 : Int32) < Int32.ofNat 0) by decide]
      rw [m1, t1]
  have hpos : (0 : Int32) < Int32.ofNat n := by rw [show (0 : Int32) = Int32.ofNat 0 from rfl, jltn (by omega) (by omega)]; omega
  obtain ⟨n2', hc⟩ := S_c_go_30 (D := D) (n := n) (f := jup f 23 0) (g := g) (n2 := n2) (p := p) (pa := pa) (s := s) (sa := sa) (sw := sw) (rp := rp) (t := t) (z := z) hT hP.1 (by rw [jup_ne (by omega)]; exact hm15) hn
  have hW' : ∀ d, d < 2147483648 → mwnd (jup (jup mf 0 0) 18 0) mg (Int32.ofNat d) = cwnd (jup f 23 0) (g 2) (p (jq sw)) (pa (jq sw)) (Int32.ofNat d) := by
    intro d hd
    have := hW (g 2) 0 d hd
    unfold mwnd cwnd at this ⊢
    simp (disch := omega) only [jup_ne] at this ⊢
    exact this
  have hst0 : rSt C Sc (s 0, sa 0) 0 0 0 ((jup (jup mf 0 0) 18 0) 19) 0 mg := by
    rw [jup_ne (by omega)]; exact hAt.2.2.1
  have hTw' : rTw (jup f 23 0) (jup (jup mf 0 0) 18 0) Sc := by
    unfold rTw at hTw ⊢
    simp (disch := omega) only [jup_ne] at hTw ⊢
    exact hTw
  have hM := fun {cx t z} => M_go_32 (D := D) (n0 := n) (w9 := g 2) (cx := cx) (f := jup (jup mf 0 0) 18 0) (g := mg) (n := mn) (b := mb) (l := ml) (t := t) (z := z) hP hst0 (by rw [jup_ne (by omega)]; exact hAt.2.2.2.2.2) hTw' hT (by omega) hn hW'
  refine ⟨(cN (jup f 23 0) (g 2) (p (jq sw)) (pa (jq sw)) C Sc (s 0, sa 0) n).1 1, jup f 23 0, g, n2', p, pa, jup s 0 (cN (jup f 23 0) (g 2) (p (jq sw)) (pa (jq sw)) C Sc (s 0, sa 0) n).1, jup sa 0 (cN (jup f 23 0) (g 2) (p (jq sw)) (pa (jq sw)) C Sc (s 0, sa 0) n).2, sw, rp, ?_, fun cx t z => ?_⟩
  · simp only [E_c_go, h0, h99, if_false, e1, hnl, hpos, if_true, E_c_go_28, hc]
  · obtain ⟨y, n', g', hk, hfo, h19, hst⟩ := hM (cx := cx) (t := t) (z := z)
    refine ⟨jup (jup (jup mf 0 0) 18 0) 15 y, g', n', mb, ml, ?_, ?_⟩
    · simp only [E_m_go, h0, h99, if_false, e2, hnl, hpos, if_true, E_m_go_30, hk]
    · obtain ⟨C', Sc', g1, g2, g3, g4, g5, g6, g7, g8, g9, g10, g11⟩ := h
      obtain ⟨rfl, rfl⟩ := jPl_inj hP.1 g1.1
      have hst' : rSt C Sc (cN (jup f 23 0) (g 2) (p (jq sw)) (pa (jq sw)) C Sc (s 0, sa 0) n) 0 0 0 (-1) 0 g' := by
        have e : (jup (jup mf 0 0) 18 0) 19 = -1 := by rw [jup_ne (by omega), jup_ne (by omega)]; exact g4.2.1
        rw [e] at hst; exact hst
      have hnew := rFr_go g2 g5 hT (n := n) (by omega) h19 hst'
      refine ⟨C, Sc, hfo.pl hP, g2, ?_, ?_, ?_, ?_, ?_, ?_, ?_, ?_, ?_⟩
      · unfold jneu at g3 ⊢; simp (disch := omega) only [jup_ne]; exact g3
      · unfold mneu at g4 ⊢; simp (disch := omega) only [jup_ne]; exact g4
      · rw [jup_same, jup_same]; exact hnew
      · unfold rIm at g6 ⊢
        simp (disch := omega) only [jup_ne]
        exact ⟨g6.1, g6.2.1, fun hz => (hfo.cop (by omega)).fr hC hS6 (g6.2.2 hz)⟩
      · refine ⟨0, by omega, jup_same, ?_, fun m hm => absurd hm (by omega), fun m hm => absurd hm (by omega)⟩
        rw [jup_ne (by omega), jup_same]; rfl
      · unfold rNo at g8 ⊢
        simp (disch := omega) only [jup_ne]
        rw [hfo.1 30 (by omega), hfo.1 31 (by omega), hfo.1 32 (by omega), hfo.1 33 (by omega)]
        exact g8
      · unfold rTa at g9 ⊢
        simp (disch := omega) only [jup_ne]
        rw [hfo.1 0 (by omega)]; exact g9
      · simp (disch := omega) only [jup_ne]; exact g10
      · exact g11
