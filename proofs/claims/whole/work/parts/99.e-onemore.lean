-- CALL BY CALL: oneMore
theorem S_h_seenFrom {D j x : Nat} {C Sc : Nat} {sg mask : Int32} {f : Nat → Int32} {g : Nat → Nat → Int32} {n2 : Nat → Nat → Int64} {p : Nat → Nat → Int32} {pa : Nat → Nat → Nat → Int32} {s : Nat → Nat → Int32} {sa : Nat → Nat → Nat → Int32} {sw : Bool} {rp : Value} {t : List jE} {z : Nat × Nat × Nat × (Nat → Int32)} (hj : j < 3) (hPl : jPl (p (jq sw)) (pa (jq sw)) C Sc) :
    ∃ n2', K_h_seenFrom D j (Int32.ofNat x) sg mask f g n2 p pa s sa sw rp t z = some (.inl (some (.int (jset (fun c => bt mask c && csee (p (jq sw)) (pa (jq sw)) sg (cwnd f (g 2) (p (jq sw)) (pa (jq sw)) (s j 0)) (s j 1) 0 (s j 0) (Int32.ofNat x) (Int32.ofNat c) (sa j 0 c)) C))), (jX f g n2' p pa s sa sw rp t, z)) := by
  have hPl2 := hPl
  obtain ⟨hC, hC30, hC1, h1, hS, hS6, -⟩ := hPl
  obtain ⟨nm0, hst, hnm0⟩ := S_h_stand (D := D) (u := sg) (v := 0) (f := f) (g := g) (n2 := n2) (p := p) (pa := pa) (s := s) (sa := sa) (sw := sw) (rp := rp) (t := t) (z := z) hj hPl2
  simp only [E_h_seenFrom hj, hst, jbO_some, jbO_none, jbO_ite, jk_some, jk_none, E_h_seenFrom_5 hj]
  generalize hP : (fun c => bt mask c && csee (p (jq sw)) (pa (jq sw)) sg (cwnd f (g 2) (p (jq sw)) (pa (jq sw)) (s j 0)) (s j 1) 0 (s j 0) (Int32.ofNat x) (Int32.ofNat c) (sa j 0 c)) = P
  have hPk : ∀ k, P k = (bt mask k && csee (p (jq sw)) (pa (jq sw)) sg (cwnd f (g 2) (p (jq sw)) (pa (jq sw)) (s j 0)) (s j 1) 0 (s j 0) (Int32.ofNat x) (Int32.ofNat k) (sa j 0 k)) := by intro k; rw [← hP]
  have key : ∀ k, k ≤ C → ∃ n2' ff rr, K_h_seenFrom_9 D j (Int32.ofNat x) (some (.int sg)) mask 0 0 f g (jup n2 0 nm0) p pa s sa sw rp t z = K_h_seenFrom_9 D j (Int32.ofNat x) (some (.int sg)) mask (jset P k) (Int32.ofNat k) f g n2' p pa s sa sw rp t z ∧
      ∀ i, i < 7 → n2' 0 i = jnm sg ff (cwnd f (g 2) (p (jq sw)) (pa (jq sw)) (s j 0)) (s j 1) 0 rr (s j 0) i := by
    intro k
    induction k with
    | zero => intro _; exact ⟨jup n2 0 nm0, _, _, rfl, by rw [jup_same]; exact hnm0⟩
    | succ k ih =>
      intro hk
      obtain ⟨n2', ff, rr, he, hnm⟩ := ih (by omega)
      obtain ⟨nm', st', hl, hnm'⟩ := S_h_looks (D := D) (x := Int32.ofNat x) (y := Int32.ofNat k) (ripe := sa j 0 k) (f := f) (g := g) (n2 := n2') (p := p) (pa := pa) (s := s) (sa := sa) (sw := sw) (rp := rp) (t := t) (z := z) hPl2 hnm
      have hlt : Int32.ofNat k < Int32.ofNat C := jlt_t (by omega) (by omega)
      rw [he, L_h_seenFrom_9 hj]
      simp (disch := omega) only [E_p_cells, jbO_some, jbO_none, jbO_ite, jk_some, jk_none, hC, E_h_seenFrom_13 hj, hlt, if_true, jbit0, jout_f, if_false, jclamp, hl, E_h_seenFrom_28 hj, E_h_seenFrom_35 hj, jsucc, jset, hPk]
      cases hb : bt mask k with
      | false => exact ⟨n2', ff, rr, by simp, hnm⟩
      | true =>
        refine ⟨jup (jup n2' 0 nm') 1 st', jdist (p (jq sw) 1) (Int32.ofNat x) (Int32.ofNat k), sa j 0 k, ?_, fun i hi => (by rw [jup_ne (by omega), jup_same]; exact hnm' i hi)⟩
        cases hc : csee (p (jq sw)) (pa (jq sw)) sg (cwnd f (g 2) (p (jq sw)) (pa (jq sw)) (s j 0)) (s j 1) 0 (s j 0) (Int32.ofNat x) (Int32.ofNat k) (sa j 0 k) <;> simp
  obtain ⟨n2', ff, rr, he, hnm⟩ := key C (Nat.le_refl C)
  refine ⟨n2', ?_⟩
  rw [he, L_h_seenFrom_9 hj]
  simp only [E_p_cells, jbO_some, jbO_none, jbO_ite, jk_some, jk_none, hC, E_h_seenFrom_13 hj, show ¬ (Int32.ofNat C < Int32.ofNat C) from jlt_n (by omega) (by omega), if_false]
def jon (S : jS) (i : Nat) : Bool := !decide (((S.2 2 i >>> (S.1 1 &&& 31)) &&& 1) = 0)
theorem jset_all {P : Nat → Bool} {n : Nat} {x : Int32} (h : ∀ i, i < 32 → bt x i = (decide (i < n) && P i)) (hn : n ≤ 32) : x = jset P n := b_ext (fun i hi => by rw [h i hi, bt_jset hn hi])
/-- what is hidden by those on the rota -/
def jhid (tf q : Nat → Int32) (qa : Nat → Nat → Int32) (wv : Int32) (S : jS) (k c : Nat) : Bool := jany (fun i => jon S i && csees tf q qa S.1 S.2 wv i c) k
theorem S_oneMore_18 {D : Nat} {C Sc : Nat} {x1 x2 : Int32} {d5 d6 d7 : Option Value} {f : Nat → Int32} {g : Nat → Nat → Int32} {n2 : Nat → Nat → Int64} {p : Nat → Nat → Int32} {pa : Nat → Nat → Nat → Int32} {s : Nat → Nat → Int32} {sa : Nat → Nat → Nat → Int32} {sw : Bool} {rp : Value} {t : List jE} {z : Nat × Nat × Nat × (Nat → Int32)} (hPl : jPl (p (jq sw)) (pa (jq sw)) C Sc) (hm : f 15 < 0) :
    ∃ n2' d7', K_c_oneMore_18 D x1 x2 (jset (jripe (s 0, sa 0)) C) 0 d5 d6 d7 f g n2 p pa s sa sw rp t z = K_c_oneMore_47 D x1 x2 (jset (fun c => jripe (s 0, sa 0) c && !jhid f (p (jq sw)) (pa (jq sw)) (cwnd f (g 2) (p (jq sw)) (pa (jq sw)) (s 0 0)) (s 0, sa 0) Sc c) C) 0 (-1) 0 d7' f g n2' p pa s sa sw rp t z := by
  have hPl2 := hPl
  obtain ⟨hC, hC30, hC1, h1, hS, hS6, -⟩ := hPl
  generalize hwv : cwnd f (g 2) (p (jq sw)) (pa (jq sw)) (s 0 0) = wv
  have key : ∀ k, k ≤ Sc → ∃ n2', K_c_oneMore_18 D x1 x2 (jset (jripe (s 0, sa 0)) C) 0 d5 d6 d7 f g n2 p pa s sa sw rp t z = K_c_oneMore_18 D x1 x2 (jset (fun c => jripe (s 0, sa 0) c && !jhid f (p (jq sw)) (pa (jq sw)) wv (s 0, sa 0) k c) C) (Int32.ofNat k) d5 d6 d7 f g n2' p pa s sa sw rp t z := by
    intro k
    induction k with
    | zero =>
      intro _
      refine ⟨n2, ?_⟩
      simp only [jhid, jany, Bool.not_false, Bool.and_true]
      rfl
    | succ k ih =>
      intro hk
      obtain ⟨n2', he⟩ := ih (by omega)
      obtain ⟨nm, st, hs⟩ := S_h_seenBy0 (D := D) (j := 0) (i := k) (f := f) (g := g) (n2 := n2') (p := p) (pa := pa) (s := s) (sa := sa) (sw := sw) (rp := rp) (t := t) (z := z) (by omega) (by omega) hPl2 hm
      rw [hwv] at hs
      have hlt : Int32.ofNat k < Int32.ofNat Sc := jlt_t (by omega) (by omega)
      rw [he, L_c_oneMore_18, hS, if_pos hlt]
      simp (disch := omega) only [E_s_onRota, jout_f, if_false, jclamp]
      by_cases hon : ((sa 0 2 k >>> (s 0 1 &&& 31)) &&& 1) = 0
      · refine ⟨n2', ?_⟩
        rw [if_pos hon]
        simp only [jbO_some, jbO_none, jbO_ite, jk_some, jk_none, E_c_oneMore_27, if_true, E_c_oneMore_39, jsucc]
        congr 1
        apply jset_congr
        intro c hc
        simp [jhid, jany, jon, hon]
      · refine ⟨jup (jup n2' 0 nm) 1 st, ?_⟩
        rw [if_neg hon]
        simp +decide only [jbO_some, jbO_none, jbO_ite, jk_some, jk_none, E_c_oneMore_27, if_false, hs, E_c_oneMore_35, E_c_oneMore_39, jsucc]
        congr 1
        rw [jset_not (by omega)]
        apply jset_congr
        intro c hc
        rw [bt_jset (by omega) (by omega)]
        simp only [jhid, jany, jon, hon, decide_false, Bool.not_false, Bool.true_and, hc, decide_true, Bool.not_or, Bool.and_assoc]
  obtain ⟨n2', he⟩ := key Sc (Nat.le_refl Sc)
  refine ⟨n2', d7, ?_⟩
  rw [he, L_c_oneMore_18, hS, if_neg (jlt_n (by omega) (by omega))]
theorem jsum_rng {P : Nat → Bool} {v : Nat → Int32} : ∀ {n : Nat}, (∀ c, c < n → ∃ r : Nat, r < 100 ∧ v c = Int32.ofNat r) → ∃ r : Nat, r ≤ 100 * n ∧ jsum P v n = Int32.ofNat r
  | 0, _ => ⟨0, by omega, rfl⟩
  | n + 1, h => by
    obtain ⟨r, hr, he⟩ := jsum_rng (P := P) (n := n) (fun c hc => h c (by omega))
    obtain ⟨r2, hr2, he2⟩ := h n (by omega)
    rw [jsum]
    split
    · exact ⟨r + r2, by omega, by rw [he, he2, jofadd]⟩
    · exact ⟨r, by omega, he⟩
def jom (v : Nat → Int32) : Nat → Int32 × Int32
  | 0 => (0, -1)
  | c + 1 => if (jom v c).2 < v c then (Int32.ofNat c, v c) else jom v c
def jom' (v : Nat → Int32) : Nat → Int32 × Int32
  | 0 => (-1, 0)
  | c + 1 => if (jom' v c).1 = -1 ∨ (jom' v c).2 < v c then (Int32.ofNat c, v c) else jom' v c
theorem jom_eq {v : Nat → Int32} : ∀ {n : Nat}, n < 100 → (∀ c, c ≤ n → ∃ r : Nat, r < 100000 ∧ v c = Int32.ofNat r) → jom v (n + 1) = jom' v (n + 1) ∧ ∃ k, k ≤ n ∧ (jom v (n + 1)).1 = Int32.ofNat k
  | 0, _, h => by
    obtain ⟨r, hr, he⟩ := h 0 (by omega)
    have hm1 : (-1 : Int32).toInt = -1 := by decide
    have h1 : (-1 : Int32) < v 0 := by
      rw [he, Int32.lt_iff_toInt_lt, jtoInt (by omega), hm1]
      omega
    have e1 : jom v (0 + 1) = (Int32.ofNat 0, v 0) := by unfold jom; exact if_pos h1
    have e2 : jom' v (0 + 1) = (Int32.ofNat 0, v 0) := by unfold jom'; exact if_pos (Or.inl rfl)
    exact ⟨by rw [e1, e2], 0, by omega, by rw [e1]⟩
  | n + 1, hn, h => by
    obtain ⟨h1, k, hk, h2⟩ := jom_eq (n := n) (by omega) (fun c hc => h c (by omega))
    have hne : ¬ (jom' v (n + 1)).1 = -1 := by
      rw [← h1, h2, jnot_one (by omega)]; exact fun q => q
    rw [show jom v (n + 1 + 1) = (if (jom v (n + 1)).2 < v (n + 1) then (Int32.ofNat (n + 1), v (n + 1)) else jom v (n + 1)) from rfl, show jom' v (n + 1 + 1) = (if (jom' v (n + 1)).1 = -1 ∨ (jom' v (n + 1)).2 < v (n + 1) then (Int32.ofNat (n + 1), v (n + 1)) else jom' v (n + 1)) from rfl, ← h1]
    rw [← h1] at hne
    by_cases hlt : (jom v (n + 1)).2 < v (n + 1)
    · rw [if_pos hlt, if_pos (Or.inr hlt)]
      exact ⟨rfl, n + 1, by omega, rfl⟩
    · rw [if_neg hlt, if_neg (fun q => q.elim hne hlt)]
      exact ⟨rfl, k, by omega, h2⟩
theorem M_oneMore_19 {D : Nat} {C Sc : Nat} {tf q : Nat → Int32} {qa : Nat → Nat → Int32} {S : jS} {x1 x2 : Int32} {d5 d6 d7 d8 : Option Value} {cx : jCX} {f : Nat → Int32} {g : Nat → Nat → Int32} {n : Nat → Nat → Int64} {b : Nat → Nat → Int32} {l : Nat → Int64} {t : List jE} {z : Nat × Nat × Nat × (Nat → Int32)} (hA : rAt q qa C Sc S 0 0 0 0 f g) (hT : rTw tf f Sc) :
    ∃ y n' d7' d8', K_m_oneMore_19 D x1 x2 0 0 d5 d6 d7 d8 cx f g n b l t z = K_m_oneMore_60 D x1 x2 (jset (jhid tf q qa (mwnd f g (S.1 0)) S Sc) C) (-1) 0 0 d7' d8' cx (jup f 15 y) g n' b l t z := by
  have hP := hA.2.1
  have hC : C ≤ 30 := hP.1.2.1
  have hS6 : Sc ≤ 6 := hP.1.2.2.2.2.2.1
  have h12 : g 1 2 = Int32.ofNat Sc := hP.2.1.2.2.1.trans hP.1.2.2.2.2.1
  generalize hwv : mwnd f g (S.1 0) = wv
  have inner : ∀ (i : Nat) (X : Int32) (y : Int32) (n' : Nat → Nat → Int64) (d6 : Option Value), i < Sc → jon S i = true → ∀ k, k ≤ C → ∃ y2 n2, K_m_oneMore_27 D x1 x2 X (Int32.ofNat i) 0 d6 d7 d8 cx (jup f 15 y) g n' b l t z = K_m_oneMore_27 D x1 x2 (X ||| jset (csees tf q qa S.1 S.2 wv i) k) (Int32.ofNat i) (Int32.ofNat k) d6 d7 d8 cx (jup f 15 y2) g n2 b l t z := by
    intro i X y n' d6 hi hon k
    induction k with
    | zero => intro _; refine ⟨y, n', ?_⟩; rw [jset, Int32.or_zero]; rfl
    | succ k ih =>
      intro hk
      obtain ⟨y2, n2, he⟩ := ih (by omega)
      have hlt : Int32.ofNat k < Int32.ofNat C := jlt_t (by omega) (by omega)
      obtain ⟨y3, n3, hs⟩ := M_isSeen (D := D) (c := k) (i := i) (tf := tf) (cx := cx) (n := n2) (b := b) (l := l) (t := t) (z := z) (rAt_f (y := y2) hA) (rTw_f (y := y2) hT) (by omega) hi
      rw [mwnd_f, jup_jup, hwv] at hs
      have hs1 : K_m_isSeen D 0 (Int32.ofNat i) (Int32.ofNat k) cx (jup f 15 y2) g n2 b l t z = _ := hs
      have hro := M_isOnRota (D := D) (i := i) (cx := cx) (n := n2) (b := b) (l := l) (t := t) (z := z) (rAt_f (y := y2) hA) hi
      have hro1 : K_m_isOnRota D 0 (Int32.ofNat i) cx (jup f 15 y2) g n2 b l t z = _ := hro
      have hon2 : ¬ ((S.2 2 i >>> (S.1 1 &&& 31)) &&& 1) = 0 := by unfold jon at hon; simpa using hon
      rw [if_neg hon2] at hro1
      refine ⟨y3, n3, ?_⟩
      rw [he, L_m_oneMore_27, M_cells hP]
      simp +decide only [jbO_some, jbO_none, jbO_ite, jk_some, jk_none, E_m_oneMore_30, hlt, if_true, hro1, E_m_oneMore_35, if_false, hs1, E_m_oneMore_42, E_m_oneMore_48, jsucc, jset]
      cases hc : csees tf q qa S.1 S.2 wv i k with
      | true => simp [Int32.or_assoc]
      | false => simp
  have key : ∀ k, k ≤ Sc → ∃ y n' d5', K_m_oneMore_19 D x1 x2 0 0 d5 d6 d7 d8 cx f g n b l t z = K_m_oneMore_19 D x1 x2 (jset (jhid tf q qa wv S k) C) (Int32.ofNat k) d5' d6 d7 d8 cx (jup f 15 y) g n' b l t z := by
    intro k
    induction k with
    | zero =>
      intro _
      refine ⟨f 15, n, d5, ?_⟩
      have : jset (jhid tf q qa wv S 0) C = 0 := (jset_0 (by omega)).mpr (fun c hc => rfl)
      rw [this, jup_self]; rfl
    | succ k ih =>
      intro hk
      obtain ⟨y, n', d5', he⟩ := ih (by omega)
      have hlt : Int32.ofNat k < Int32.ofNat Sc := jlt_t (by omega) (by omega)
      have hro := M_isOnRota (D := D) (i := k) (cx := cx) (n := n') (b := b) (l := l) (t := t) (z := z) (rAt_f (y := y) hA) (by omega)
      have hro1 : K_m_isOnRota D 0 (Int32.ofNat k) cx (jup f 15 y) g n' b l t z = _ := hro
      have hC1 : Int32.ofNat 0 < Int32.ofNat C := jlt_t (by have := hP.1.2.2.1; omega) (by omega)
      rw [he, L_m_oneMore_19, h12, if_pos hlt]
      by_cases hon : ((S.2 2 k >>> (S.1 1 &&& 31)) &&& 1) = 0
      · rw [if_pos hon] at hro1
        have hj : jset (jhid tf q qa wv S (k + 1)) C = jset (jhid tf q qa wv S k) C := jset_congr (fun c hc => by simp [jhid, jany, jon, hon])
        refine ⟨y, n', some (.int 0), ?_⟩
        rw [L_m_oneMore_27, M_cells hP, hj]
        simp +decide only [jbO_some, jbO_none, jbO_ite, jk_some, jk_none, E_m_oneMore_30, show ((0 : Int32) < Int32.ofNat C) from hC1, if_true, hro1, E_m_oneMore_35, E_m_oneMore_52, jsucc]
      · have hjon : jon S k = true := by unfold jon; simp [hon]
        obtain ⟨y2, n2, hin⟩ := inner k (jset (jhid tf q qa wv S k) C) y n' d6 (by omega) hjon C (Nat.le_refl C)
        have hj : jset (jhid tf q qa wv S k) C ||| jset (csees tf q qa S.1 S.2 wv k) C = jset (jhid tf q qa wv S (k + 1)) C := by
          rw [jset_or (by omega)]
          exact jset_congr (fun c hc => by simp [jhid, jany, hjon])
        refine ⟨y2, n2, some (.int (Int32.ofNat C)), ?_⟩
        rw [hin, L_m_oneMore_27, M_cells hP, hj]
        simp only [jbO_some, jbO_none, jbO_ite, jk_some, jk_none, E_m_oneMore_30, show ¬ (Int32.ofNat C < Int32.ofNat C) from jlt_n (by omega) (by omega), if_false, E_m_oneMore_52, jsucc]
  obtain ⟨y, n', d5', he⟩ := key Sc (Nat.le_refl Sc)
  refine ⟨y, n', d7, d8, ?_⟩
  rw [he, L_m_oneMore_19, h12, if_neg (jlt_n (by omega) (by omega))]
