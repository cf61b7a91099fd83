-- CALL BY CALL: keeping
theorem S_keep_28 {D T nd i C Sc L M : Nat} {x3 : Int32} {A0 B : jS} {ev : Nat → Nat} {y0 : Int32} {m0 : Nat → Int32} {f : Nat → Int32} {g : Nat → Nat → Int32} {n2 : Nat → Nat → Int64} {p : Nat → Nat → Int32} {pa : Nat → Nat → Nat → Int32} {s : Nat → Nat → Int32} {sa : Nat → Nat → Nat → Int32} {sw : Bool} {rp : Value} {t : List jE} {z : Nat × Nat × Nat × (Nat → Int32)} (hA0 : (s 2, sa 2) = A0) (hB : jtry A0 (s 0, sa 0) = B) (hT : jtm (s 0, sa 0) T) (hPl : jPl (p (jq sw)) (pa (jq sw)) C Sc) (hq : ∃ r : Nat, r < 100 ∧ p (jq sw) 7 = Int32.ofNat r) (hi : i < 6) (hnd : nd ≤ 3) (hL : nd * 12 - T % 12 = L) (hnd1 : 1 ≤ nd)
    (hcr : ∀ k, jCr C (jsb B i k)) (hev : ∀ x, ev x ≤ 2970) (hva : ∀ k, k < 4096 → ∀ n, n ≤ L → ∃ e, (cN f (g 2) (p (jq sw)) (pa (jq sw)) C Sc (jsb B i k) n).1 3 = Int32.ofNat e ∧ e ≤ ev k ∧ (n = L → e = ev k))
    (hM : M ≤ 3) (h6 : (if p (jq sw) 6 < 3 then p (jq sw) 6 else 3) = Int32.ofNat M) (hm0 : jmm f (p (jq sw)) (pa (jq sw)) (g 2) T (B.2 3) C Sc m0) :
    ∃ (n2' : Nat → Nat → Int64) (m' : Nat → Int32) (X' : jS) (least best : Nat) (d1 d2 d6 d7 : Option Value), K_c_keeping_28 D (Int32.ofNat i) (Int32.ofNat nd) x3 2971 0 0 none (jup (jup f 14 1) 15 y0) (jup g 3 m0) n2 p pa s sa sw rp t z = jev D 117 87 ([some (.ref 0), d1, d2, some (.int x3), some (.int (Int32.ofNat least)), some (.int (Int32.ofNat best)), d6, d7], []) [] ((jX (jup (jup f 14 0) 15 (-1)) (jup g 3 m') n2' p pa (jup s 2 X'.1) (jup sa 2 X'.2) sw rp t, z)) ∧ kinv ev (kp (M + 1) 0) least best ∧ best < 4096 := by
  generalize hQ0 : K_c_keeping_28 D (Int32.ofNat i) (Int32.ofNat nd) x3 2971 0 0 none (jup (jup f 14 1) 15 y0) (jup g 3 m0) n2 p pa s sa sw rp t z = Q0
  have key : ∀ k, k ≤ M + 1 → ∃ (y : Int32) (n2' : Nat → Nat → Int64) (m : Nat → Int32) (X : jS) (least best : Nat) (d7 : Option Value), Q0 = K_c_keeping_28 D (Int32.ofNat i) (Int32.ofNat nd) x3 (Int32.ofNat least) (Int32.ofNat best) (Int32.ofNat k) d7 (jup (jup f 14 1) 15 y) (jup g 3 m) n2' p pa (jup s 2 X.1) (jup sa 2 X.2) sw rp t z ∧ jnk X A0 ∧ jmm f (p (jq sw)) (pa (jq sw)) (g 2) T (B.2 3) C Sc m ∧ kinv ev (kp k 0) least best ∧ best < 4096 := by
    intro k
    induction k with
    | zero =>
      intro _
      refine ⟨y0, n2, m0, A0, 2971, 0, none, ?_, jnk.rf, hm0, Or.inl ⟨fun x q => by obtain ⟨-, q⟩ := q; omega, rfl, rfl⟩, by omega⟩
      rw [← hA0, ← hQ0]; dsimp only; rw [jup_self, jup_self]; rfl
    | succ k ih =>
      intro hk
      obtain ⟨y, n2', m, X, least, best, d7, he, hX, hm, hkv, hb⟩ := ih (by omega)
      rw [L_c_keeping_28, h6, if_neg (jlt_n (by omega) (by omega))] at he
      obtain ⟨y2, n3, m3, X3, least3, best3, d3, e3, hX3, hm3, hk3, hb3⟩ := S_keep_37 (D := D) (nd := nd) (x3 := x3) (f := f) (g := g) (n2 := n2') (rp := rp) (t := t) (z := z) hA0 hB hT hPl hq hi hnd hL hnd1 hcr hev hva k y n2' m X least best (by omega) hX hm hkv hb
      exact ⟨y2, n3, m3, X3, least3, best3, d3, he.trans e3, hX3, hm3, hk3, hb3⟩
  obtain ⟨y, n2', m, X, least, best, d7, he, -, -, hkv, hb⟩ := key (M + 1) (Nat.le_refl _)
  refine ⟨n2', m, X, least, best, some (.int (Int32.ofNat i)), some (.int (Int32.ofNat nd)), some (.int (Int32.ofNat (M + 1))), d7, ?_, hkv, hb⟩
  have hff : jup (jup (jup (jup f 14 1) 15 y) 14 0) 15 (-1) = jup (jup f 14 0) 15 (-1) := by
    funext x
    by_cases x15 : x = 15
    · subst x15; rw [jup_same, jup_same]
    · rw [jup_ne x15, jup_ne x15]
      by_cases x14 : x = 14
      · subst x14; rw [jup_same, jup_same]
      · rw [jup_ne x14, jup_ne x14, jup_ne x15, jup_ne x14]
  rw [he, L_c_keeping_28, h6, if_pos (jlt_t (by omega) (by omega)), E_h_remember, if_pos (Or.inl rfl), if_pos rfl, jbO_some, jk_none, hff]
theorem A_keeping {D : Nat} {a x v : Int32} {f : Nat → Int32} {g : Nat → Nat → Int32} {n2 : Nat → Nat → Int64} {p : Nat → Nat → Int32} {pa : Nat → Nat → Nat → Int32} {s : Nat → Nat → Int32} {sa : Nat → Nat → Nat → Int32} {sw : Bool} {rp : Value} {mf : Nat → Int32} {mg : Nat → Nat → Int32} {mn : Nat → Nat → Int64} {mb : Nat → Nat → Int32} {ml : Nat → Int64} (h : RR f g p pa s sa sw mf mg mb) : ∀ (t : List jE) (z : Nat × Nat × Nat × (Nat → Int32)), ∃ r : Int32, ∃ f' g' n2' p' pa' s' sa' sw' rp', K_c_keeping D a x v f g n2 p pa s sa sw rp t z = some (.inl (some (.int r)), (jX f' g' n2' p' pa' s' sa' sw' rp' t, z)) ∧ ∀ (cx : jCX) (t1 : List jE) (z1 : Nat × Nat × Nat × (Nat → Int32)), ∃ mf' mg' mn' mb' ml', K_m_keeping D a x v cx mf mg mn mb ml t1 z1 = some (.inl (some (.int r)), (jXt cx (jY mf' mg' mn' mb' ml' t1), z1)) ∧ RR f' g' p' pa' s' sa' sw' mf' mg' mb' := by
  intro t z
  obtain ⟨C, Sc, T, hP, hC, hS6, hT, hT2, hjn, hmn, hfr, hTw, hAt, hW, -, hm15⟩ := RR_ex (n2 := n2) (rp := rp) (mn := mn) (ml := ml) h
  have hr := RR_congr h (by intro k hk; simp (disch := omega) only [jup_ne]) (by intro k hk; simp (disch := omega) only [jup_ne]) rfl rfl (by constructor <;> simp (disch := omega) only [jup_ne]) (by constructor <;> simp (disch := omega) only [jup_ne]) (by intro k hk; simp (disch := omega) only [jup_ne]) (jq1.rf) rfl (f' := f) (g' := g) (s' := s) (sa' := sa) (p' := p) (pa' := pa) (sw' := sw) (mf' := jup mf 0 0) (mg' := mg) (mb' := mb)
  obtain ⟨_, _, _, hq7, _, _, _, _, _, _, _, _, _, m6, hm6, hp6⟩ := id h
  have hS := hP.1.2.2.2.2.1
  have h10' : ¬ (1 : Int32) = 0 := by decide
  have hsc := S_p_hasScare (D := D) (w := sw) (x := a) (f := f) (g := g) (n2 := n2) (p := p) (pa := pa) (s := s) (sa := sa) (sw := sw) (rp := rp) (t := t) (z := z) hS hS6
  have hms := fun {cx t z} => M_isScare (D := D) (x := a) (cx := cx) (f := jup mf 0 0) (g := mg) (n := mn) (b := mb) (l := ml) (t := t) (z := z) hP
  have ex : (K_c_keeping D a x v f g n2 p pa s sa sw rp t z = some (.inl (some (.int (-1))), (jX f g n2 p pa s sa sw rp t, z))) → (∀ cx t z, K_m_keeping D a x v cx mf mg mn mb ml t z = some (.inl (some (.int (-1))), (jXt cx (jY (jup mf 0 0) mg mn mb ml t), z))) → ∃ r f' g' n2' p' pa' s' sa' sw' rp', K_c_keeping D a x v f g n2 p pa s sa sw rp t z = some (.inl (some (.int r)), (jX f' g' n2' p' pa' s' sa' sw' rp' t, z)) ∧ ∀ cx t1 z1, ∃ mf' mg' mn' mb' ml', K_m_keeping D a x v cx mf mg mn mb ml t1 z1 = some (.inl (some (.int r)), (jXt cx (jY mf' mg' mn' mb' ml' t1), z1)) ∧ RR f' g' p' pa' s' sa' sw' mf' mg' mb' := fun h1 h2 => ⟨-1, f, g, n2, p, pa, s, sa, sw, rp, h1, fun cx t z => ⟨jup mf 0 0, mg, mn, mb, ml, h2 cx t z, hr⟩⟩
  rcases jout_dec a Sc (by omega) with ho | ⟨i, hi, rfl⟩
  · exact ex (by rw [E_c_keeping, hsc, if_pos ho, jbO_some, jk_some, E_c_keeping_4, if_pos rfl]) (fun cx t z => by rw [E_m_keeping, hms, if_pos ho, jbO_some, jk_some, E_m_keeping_6, if_pos rfl])
  have hno : ¬ jout (Int32.ofNat i) Sc := jout_n hi (by omega)
  have c4 : K_c_keeping D (Int32.ofNat i) x v f g n2 p pa s sa sw rp t z = if x < 1 then some (.inl (some (.int (-1))), (jX f g n2 p pa s sa sw rp t, z)) else if 3 < x then some (.inl (some (.int (-1))), (jX f g n2 p pa s sa sw rp t, z)) else if v < 0 then some (.inl (some (.int (-1))), (jX f g n2 p pa s sa sw rp t, z)) else if 1 < v then some (.inl (some (.int (-1))), (jX f g n2 p pa s sa sw rp t, z)) else jbO (K_h_remember D 1 f g n2 p pa s sa sw rp t z) (jk D 117 22 ([some (.ref 0), some (.int (Int32.ofNat i)), some (.int x), some (.int v), none, none, none, none], []) []) := by
    rw [E_c_keeping, hsc, if_neg hno, jbO_some, jk_some, E_c_keeping_4, if_neg h10']
  have m6e : ∀ cx t z, K_m_keeping D (Int32.ofNat i) x v cx mf mg mn mb ml t z = if x < 1 then some (.inl (some (.int (-1))), (jXt cx (jY (jup mf 0 0) mg mn mb ml t), z)) else if 3 < x then some (.inl (some (.int (-1))), (jXt cx (jY (jup mf 0 0) mg mn mb ml t), z)) else if v < 0 then some (.inl (some (.int (-1))), (jXt cx (jY (jup mf 0 0) mg mn mb ml t), z)) else if 1 < v then some (.inl (some (.int (-1))), (jXt cx (jY (jup mf 0 0) mg mn mb ml t), z)) else jbO (K_m_layKeeping D (Int32.ofNat i) x cx (jup mf 0 0) mg mn mb ml t z) (jk D 221 24 ([some (.ref 79), some (.int (Int32.ofNat i)), some (.int x), some (.int v)], []) []) := by
    intro cx t z
    rw [E_m_keeping, hms, if_neg hno, jbO_some, jk_some, E_m_keeping_6, if_neg h10']
  by_cases h0 : x < 1
  · exact ex (by rw [c4, if_pos h0]) (fun cx t z => by rw [m6e, if_pos h0])
  by_cases h3 : 3 < x
  · exact ex (by rw [c4, if_neg h0, if_pos h3]) (fun cx t z => by rw [m6e, if_neg h0, if_pos h3])
  by_cases hv0 : v < 0
  · exact ex (by rw [c4, if_neg h0, if_neg h3, if_pos hv0]) (fun cx t z => by rw [m6e, if_neg h0, if_neg h3, if_pos hv0])
  by_cases hv1 : 1 < v
  · exact ex (by rw [c4, if_neg h0, if_neg h3, if_neg hv0, if_pos hv1]) (fun cx t z => by rw [m6e, if_neg h0, if_neg h3, if_neg hv0, if_pos hv1])
  clear ex
  obtain ⟨nd, hnd1, hnd, rfl⟩ : ∃ n, 1 ≤ n ∧ n ≤ 3 ∧ x = Int32.ofNat n := by
    rcases jcases x with hneg | ⟨k, hk, rfl⟩
    · exact absurd (Int32.lt_trans hneg (by decide)) h0
    · refine ⟨k, ?_, ?_, rfl⟩
      · rw [show (1 : Int32) = Int32.ofNat 1 from rfl, jltn (by omega) (by omega)] at h0; omega
      · rw [show (3 : Int32) = Int32.ofNat 3 from rfl, jltn (by omega) hk] at h3; omega
  obtain ⟨M, hM, hMm, h6c⟩ : ∃ M, M ≤ 3 ∧ (M = m6 ∨ (3 ≤ m6 ∧ M = 3)) ∧ (if p (jq sw) 6 < 3 then p (jq sw) 6 else 3) = Int32.ofNat M := by
    by_cases q : m6 < 3
    · exact ⟨m6, by omega, Or.inl rfl, by rw [hp6, if_pos (show Int32.ofNat m6 < 3 from jlt_t (b := 3) q (by omega))]⟩
    · exact ⟨3, by omega, Or.inr ⟨by omega, rfl⟩, by rw [hp6, if_neg (show ¬ Int32.ofNat m6 < 3 from jlt_n (b := 3) (by omega) (by omega))]; rfl⟩
  have h6m : (if mg 1 4 < 3 then mg 1 4 else 3) = Int32.ofNat M := by rw [hP.2.1.2.2.2.2.1]; exact h6c
  generalize hL : nd * 12 - T % 12 = L
  generalize hB : jtry (s 2, sa 2) (s 0, sa 0) = B
  have hB20 : ∀ c, c < 30 → B.2 0 c = sa 0 0 c := by
    intro c hc; rw [← hB]; unfold jtry; dsimp only; exact (jcpS_eq (A := (s 2, sa 2)) (B := (s 0, sa 0))).2.1 c hc
  have hB3 : B.1 3 = 0 := by rw [← hB]; unfold jtry; dsimp only; rw [jup_ne (by omega), jup_ne (by omega), jup_same]
  have hcrB : ∀ k, jCr C (jsb B i k) := by
    intro k
    have e0 : (jsb B i k).2 0 = B.2 0 := by unfold jsb; dsimp only; rw [jup_ne (by omega)]
    obtain ⟨y1, y2⟩ := hfr.2.2.2.1
    refine ⟨fun c hc => ?_, fun c hc1 hc2 => ?_⟩
    · rw [e0, hB20 c (by omega)]; exact y1 c hc
    · rw [e0, hB20 c hc2]; exact y2 c hc1 hc2
  have e0 : ∀ k, (jsb B i k).2 0 = B.2 0 := by intro k; unfold jsb; dsimp only; rw [jup_ne (by omega)]
  let ev : Nat → Nat := fun k => jcs (B.2 0) C - jcs ((cN f (g 2) (p (jq sw)) (pa (jq sw)) C Sc (jsb B i k) L).2 0) C
  have hev : ∀ k, ev k ≤ 2970 := by
    intro k
    have : jcs (B.2 0) C ≤ 99 * C := by rw [← e0 0]; exact jcs_le (hcrB 0).1
    show jcs (B.2 0) C - _ ≤ 2970
    omega
  have hva : ∀ k, k < 4096 → ∀ n, n ≤ L → ∃ e, (cN f (g 2) (p (jq sw)) (pa (jq sw)) C Sc (jsb B i k) n).1 3 = Int32.ofNat e ∧ e ≤ ev k ∧ (n = L → e = ev k) := by
    intro k _ n hn
    obtain ⟨e, e1, e2⟩ := cN_eat (tf := f) (w9 := g 2) (qa := pa (jq sw)) (Sc := Sc) (S := jsb B i k) hq7 (hcrB k) hB3
    have heL : e L = ev k := by
      have := (e1 L).2
      rw [e0 k] at this
      show e L = jcs (B.2 0) C - _
      omega
    have hmono : ∀ d, e n ≤ e (n + d) := by
      intro d
      induction d with
      | zero => exact Nat.le_refl _
      | succ d ih => exact Nat.le_trans ih (e2 (n + d))
    refine ⟨e n, (e1 n).1, ?_, fun q => by rw [q]; exact heL⟩
    rw [← heL, show L = n + (L - n) by omega]; exact hmono _
  have hm0 : jmm f (p (jq sw)) (pa (jq sw)) (g 2) T (B.2 3) C Sc (jfil (-1) 6480 (g 3)) := by
    intro row hrow i hi c hc
    left; unfold jfil; rw [if_pos (by omega)]
  obtain ⟨n2', m', X', least, best, d1, d2, d6, d7, hcl, hkv, hb4⟩ := S_keep_28 (D := D) (nd := nd) (M := M) (x3 := v) (y0 := -1) (m0 := jfil (-1) 6480 (g 3)) (f := f) (g := g) (n2 := n2) (rp := rp) (t := t) (z := z) rfl hB hT hP.1 hq7 (show i < 6 by omega) hnd hL hnd1 hcrB hev hva hM h6c hm0
  have hff : jup (jup f 14 0) 15 (-1) = f := by
    funext x
    by_cases x15 : x = 15
    · subst x15; rw [jup_same]; exact hjn.2.1.symm
    · rw [jup_ne x15]
      by_cases x14 : x = 14
      · subst x14; rw [jup_same]; exact hjn.1.symm
      · rw [jup_ne x14]
  rw [hff] at hcl
  refine ⟨if v = 0 then Int32.ofNat best else Int32.ofNat least, f, jup g 3 m', n2', p, pa, jup s 2 X'.1, jup sa 2 X'.2, sw, rp, ?_, fun cx t1 z1 => ?_⟩
  · rw [c4, if_neg h0, if_neg h3, if_neg hv0, if_neg hv1, E_h_remember, if_pos (Or.inr rfl), if_neg h10', S_j_fill_memo, jbO_some, jk_none, E_h_remember_12, jbO_some, jk_none, E_c_keeping_22, hcl, E_c_keeping_87]
    by_cases hv : v = 0
    · rw [if_pos hv, if_pos hv]
    · rw [if_neg hv, if_neg hv]
  · have f19 : (jup mf 0 0) 19 = -1 := by rw [jup_ne (by omega)]; exact hmn.2.1
    obtain ⟨f', g', n', hlay, hf', hfo, hmv⟩ := M_lay_12 (D := D) (nd := nd) (i := i) (M := M) (A0 := (s 2, sa 2)) (S0 := (s 0, sa 0)) (ev := ev) (f0 := jup mf 0 0) (mg := mg) (cx := cx) (b := mb) (l := ml) (t := t1) (z := z1) (tf := f) (w9 := g 2) hP hAt.2.2.1 (by rw [f19]; decide) hAt.2.2.2.2.2 hTw hT (by omega) hnd hnd1 hi hL (fun d hd => by have := hW (g 2) 0 d hd; rw [mwnd_f] at this; exact this) hM hev (fun k hk => by rw [hB]; obtain ⟨e, x1, -, x3⟩ := hva k hk L (Nat.le_refl L); rw [x1, x3 rfl]) mn
    have hpred : ∀ x, kp (M + 1) 0 x ↔ mkp M 4096 x := by
      intro x
      unfold kp mkp
      constructor
      · rintro ⟨p1, p2⟩; exact ⟨p1, by omega⟩
      · rintro ⟨p1, p2⟩; exact ⟨p1, by omega⟩
    have h00 : mkp M 4096 0 := ⟨by omega, by rw [show jpcn 0 12 = 0 by decide]; omega⟩
    have hres : f' 21 = Int32.ofNat best ∧ f' 22 = Int32.ofNat least := by
      rcases hkv with ⟨k1, -, -⟩ | ⟨k1, k2, k3⟩
      · exact absurd ((hpred 0).mpr h00) (k1 0)
      rcases hmv with ⟨-, l1⟩ | ⟨best', l0, l1, l2, l3, l4⟩
      · exact absurd h00 (l1 0)
      have hbb : best = best' := by
        have b1 := k3 best' ((hpred best').mpr l3)
        have b2 := l4 best ((hpred best).mp k1)
        unfold jlx at b1 b2
        omega
      subst hbb
      exact ⟨l1, by rw [l2, k2]⟩
    refine ⟨f', g', n', mb, ml, ?_, ?_⟩
    · rw [m6e, if_neg h0, if_neg h3, if_neg hv0, if_neg hv1, E_m_layKeeping, h6m, hlay, jbO_some, jk_none, E_m_keeping_24]
      by_cases hv : v = 0
      · rw [if_pos hv, if_pos hv, hres.1]
      · rw [if_neg hv, if_neg hv, hres.2]
    · refine RR_congr h (by intro k hk; rfl) (by intro k hk; simp (disch := omega) only [jup_ne]) rfl rfl (by constructor <;> simp (disch := omega) only [jup_ne]) (by constructor <;> simp (disch := omega) only [jup_ne]) (by intro k hk; rw [hf' k (by omega) (by omega) (by omega), jup_ne (by omega)]) (jq1.of hfo) rfl
