-- AN HOUR of the class
abbrev jS : Type := (Nat → Int32) × (Nat → Nat → Int32)
theorem cflap_congr {tf q a a' : Nat → Int32} {aa aa' : Nat → Nat → Int32} {wv : Int32} {i : Nat} (h1 : a 1 = a' 1) (h2 : a 2 = a' 2) (g2 : aa 2 i = aa' 2 i) (g4 : aa 4 i = aa' 4 i) : cflap tf q a aa wv i = cflap tf q a' aa' wv i := by
  unfold cflap; rw [h1, h2, g2, g4]
theorem csees_congr {tf q a a' : Nat → Int32} {qa aa aa' : Nat → Nat → Int32} {wv : Int32} {i : Nat} (h0 : a 0 = a' 0) (h1 : a 1 = a' 1) (g0 : aa 0 = aa' 0) (g3 : aa 3 = aa' 3) : csees tf q qa a aa wv i = csees tf q qa a' aa' wv i := by
  funext c; unfold csees; rw [h0, h1, g0, g3]
theorem cwage_congr {tf q a a' : Nat → Int32} {qa aa aa' : Nat → Nat → Int32} {wv : Int32} {i : Nat} (h0 : a 0 = a' 0) (h1 : a 1 = a' 1) (g3 : aa 3 = aa' 3) : cwage tf q qa a aa wv i = cwage tf q qa a' aa' wv i := by
  unfold cwage cpayl; rw [h0, h1, g3]
theorem cmeal_congr {q a a' : Nat → Int32} {qa aa aa' : Nat → Nat → Int32} {wv : Int32} {c : Nat} (h0 : a 0 = a' 0) (h1 : a 1 = a' 1) (g0 : aa 0 = aa' 0) : cmeal q qa a aa wv c = cmeal q qa a' aa' wv c := by
  unfold cmeal ceatl; rw [h0, h1, g0]
theorem caim_congr {tf a a' : Nat → Int32} {aa aa' : Nat → Nat → Int32} {C : Nat} (h1 : a 1 = a' 1) (g0 : aa 0 = aa' 0) (g1 : aa 1 = aa' 1) : caim tf a aa C = caim tf a' aa' C := by
  unfold caim; rw [h1, g0, g1]
theorem jmemO_congr {tf q a a' m : Nat → Int32} {qa aa aa' : Nat → Nat → Int32} {wv : Int32} {C Sc : Nat} (h0 : a 0 = a' 0) (h1 : a 1 = a' 1) (g0 : aa 0 = aa' 0) (g3 : aa 3 = aa' 3) : jmemO tf q qa a aa wv C Sc m = jmemO tf q qa a' aa' wv C Sc m := by
  unfold jmemO jent; rw [h0, h1, g0, g3]
theorem jmemR_congr {tf q a a' m m' : Nat → Int32} {qa aa aa' : Nat → Nat → Int32} {wv : Int32} {C Sc : Nat} (h0 : a 0 = a' 0) (h1 : a 1 = a' 1) (g3 : aa 3 = aa' 3) : jmemR tf q qa a aa wv C Sc m m' = jmemR tf q qa a' aa' wv C Sc m m' := by
  unfold jmemR jent; rw [h0, h1, g3]
def csp (tf q : Nat → Int32) (qa : Nat → Nat → Int32) (wv : Int32) (S : jS) : Nat → Int32
  | 0 => S.1 4
  | k + 1 => if cflap tf q S.1 S.2 wv k = 1 then csp tf q qa wv S k + cwage tf q qa S.1 S.2 wv k else csp tf q qa wv S k
def cfl (tf q : Nat → Int32) (wv : Int32) (S : jS) : Nat → Nat → Int32
  | 0 => S.2 4
  | k + 1 => if cflap tf q S.1 S.2 wv k = 1 then jup (cfl tf q wv S k) k (cfl tf q wv S k k + 1) else cfl tf q wv S k
def cse (tf q : Nat → Int32) (qa : Nat → Nat → Int32) (wv : Int32) (C : Nat) (S : jS) : Nat → Int32
  | 0 => 0
  | k + 1 => if cflap tf q S.1 S.2 wv k = 0 then cse tf q qa wv C S k else cse tf q qa wv C S k ||| jset (csees tf q qa S.1 S.2 wv k) C
theorem cfl_ge {tf q : Nat → Int32} {wv : Int32} {S : jS} : ∀ {k i : Nat}, k ≤ i → cfl tf q wv S k i = S.2 4 i
  | 0, i, _ => rfl
  | k + 1, i, h => by
    unfold cfl
    split
    · rw [jup_ne (by omega)]; exact cfl_ge (by omega)
    · exact cfl_ge (by omega)
/-- who flaps -/
def cS1 (tf q : Nat → Int32) (qa : Nat → Nat → Int32) (wv : Int32) (Sc : Nat) (S : jS) : jS := (jup S.1 4 (csp tf q qa wv S Sc), jup S.2 4 (cfl tf q wv S Sc))
/-- the crows -/
def cS2 (q : Nat → Int32) (qa : Nat → Nat → Int32) (wv se : Int32) (cm : Option Nat) (S : jS) : jS := match cm with
  | none => S
  | some c => if ((se >>> (Int32.ofNat c &&& 31)) &&& 1) = 0 then (jup S.1 3 (S.1 3 + cmeal q qa S.1 S.2 wv c), jup S.2 0 (jup (S.2 0) c (S.2 0 c - cmeal q qa S.1 S.2 wv c))) else (jup S.1 5 (S.1 5 + 1), S.2)
def jfil (v : Int32) (n : Nat) (f : Nat → Int32) : Nat → Int32 := fun i => if i < n then v else f i
def ctick (S : jS) : jS := if S.1 1 + 1 < 12 then (jup S.1 1 (S.1 1 + 1), S.2) else (jup (jup S.1 0 (S.1 0 + 1)) 1 0, jup S.2 4 (jfil 0 6 (S.2 4)))
/-- what was seen, the clock -/
def cS3 (se : Int32) (S : jS) : jS := ctick (S.1, jup S.2 1 (jup (S.2 1) (S.1 1).toNatClampNeg se))
def cS (tf q : Nat → Int32) (qa : Nat → Nat → Int32) (wv : Int32) (C Sc : Nat) (S : jS) : jS :=
  cS3 (cse tf q qa wv C S Sc) (cS2 q qa wv (cse tf q qa wv C S Sc) (caim tf S.1 S.2 C) (cS1 tf q qa wv Sc S))
theorem S_j_fill_s4 {D j : Nat} {v : Int32} {f : Nat → Int32} {g : Nat → Nat → Int32} {n2 : Nat → Nat → Int64} {p : Nat → Nat → Int32} {pa : Nat → Nat → Nat → Int32} {s : Nat → Nat → Int32} {sa : Nat → Nat → Nat → Int32} {sw : Bool} {rp : Value} {t : List jE} {z : Nat × Nat × Nat × (Nat → Int32)} (hj : j < 3) : K_j_fill_s4 D j v f g n2 p pa s sa sw rp t z = some (.inl none, (jX f g n2 p pa s (jup sa j (jup (sa j) 4 (jfil v 6 (sa j 4)))) sw rp t, z)) := by
  rw [E_j_fill_s4 hj]
  have key : ∀ k, k ≤ 6 → K_j_fill_s4_5 D j v 0 (Int32.ofNat 6) f g n2 p pa s sa sw rp t z = K_j_fill_s4_5 D j v (Int32.ofNat k) (Int32.ofNat 6) f g n2 p pa s (jup sa j (jup (sa j) 4 (jfil v k (sa j 4)))) sw rp t z := by
    intro k
    induction k with
    | zero =>
      intro _
      have : jfil v 0 (sa j 4) = sa j 4 := by funext i; simp [jfil]
      rw [this, jup_self, jup_self]; rfl
    | succ k ih =>
      intro hk
      have hx : jup (jfil v k (sa j 4)) k v = jfil v (k + 1) (sa j 4) := by
        funext i
        by_cases h : i = k
        · subst h; simp [jup, jfil]
        · by_cases h2 : i < k
          · simp [jup, jfil, h, h2, show i < k + 1 by omega]
          · simp [jup, jfil, h, h2, show ¬ i < k + 1 by omega]
      rw [ih (by omega), L_j_fill_s4_5 hj]
      simp (disch := omega) only [jltn, jout_f, jclamp, if_false, jup_same, jup_jup, jsucc, hx]
      rw [if_pos (by omega)]
  rw [key 6 (Nat.le_refl 6), L_j_fill_s4_5 hj]
  simp (disch := omega) only [jltn]
  rw [if_neg (by omega)]
theorem S_s_tick {D j : Nat} {f : Nat → Int32} {g : Nat → Nat → Int32} {n2 : Nat → Nat → Int64} {p : Nat → Nat → Int32} {pa : Nat → Nat → Nat → Int32} {s : Nat → Nat → Int32} {sa : Nat → Nat → Nat → Int32} {sw : Bool} {rp : Value} {t : List jE} {z : Nat × Nat × Nat × (Nat → Int32)} (hj : j < 3) : K_s_tick D j f g n2 p pa s sa sw rp t z = some (.inl none, (jX f g n2 p pa (jup s j (ctick (s j, sa j)).1) (jup sa j (ctick (s j, sa j)).2) sw rp t, z)) := by
  simp only [E_s_tick hj, E_s_tick_23 hj, S_j_fill_s4 hj, jbO_some, jbO_none, jbO_ite, jk_some, jk_none, ctick]
  split
  · simp only [jup_self]
  · rfl
set_option maxHeartbeats 8000000 in
theorem S_h_pass {D j h0 : Nat} {C Sc : Nat} {f : Nat → Int32} {g : Nat → Nat → Int32} {n2 : Nat → Nat → Int64} {p : Nat → Nat → Int32} {pa : Nat → Nat → Nat → Int32} {s : Nat → Nat → Int32} {sa : Nat → Nat → Nat → Int32} {sw : Bool} {rp : Value} {t : List jE} {z : Nat × Nat × Nat × (Nat → Int32)} (hj : j < 3) (hh : s j 1 = Int32.ofNat h0) (hh12 : h0 < 12) (hPl : jPl (p (jq sw)) (pa (jq sw)) C Sc)
    (hM : jmemO f (p (jq sw)) (pa (jq sw)) (s j) (sa j) (cwnd f (g 2) (p (jq sw)) (pa (jq sw)) (s j 0)) C Sc (g 3)) :
    ∃ n2' m', K_h_pass D j f g n2 p pa s sa sw rp t z = some (.inl none, (jX f (jup g 3 m') n2' p pa (jup s j (cS f (p (jq sw)) (pa (jq sw)) (cwnd f (g 2) (p (jq sw)) (pa (jq sw)) (s j 0)) C Sc (s j, sa j)).1) (jup sa j (cS f (p (jq sw)) (pa (jq sw)) (cwnd f (g 2) (p (jq sw)) (pa (jq sw)) (s j 0)) C Sc (s j, sa j)).2) sw rp t, z)) ∧
      jmemR f (p (jq sw)) (pa (jq sw)) (s j) (sa j) (cwnd f (g 2) (p (jq sw)) (pa (jq sw)) (s j 0)) C Sc (g 3) m' := by
  have hPl2 := hPl
  obtain ⟨hC, hC30, hC1, h1, hS, hS6, -⟩ := hPl
  generalize hwv : cwnd f (g 2) (p (jq sw)) (pa (jq sw)) (s j 0) = wv at hM ⊢
  generalize hSS : ((s j, sa j) : jS) = SS
  have hS1 : s j = SS.1 := by rw [← hSS]
  have hS2 : sa j = SS.2 := by rw [← hSS]
  rw [E_h_pass hj]
  have key : ∀ k, k ≤ Sc → ∃ n2' m' d4, K_h_pass_4 D j 0 0 none f g n2 p pa s sa sw rp t z = K_h_pass_4 D j (cse f (p (jq sw)) (pa (jq sw)) wv C SS k) (Int32.ofNat k) d4 f (jup g 3 m') n2' p pa (jup s j (jup SS.1 4 (csp f (p (jq sw)) (pa (jq sw)) wv SS k))) (jup sa j (jup SS.2 4 (cfl f (p (jq sw)) wv SS k))) sw rp t z ∧
      jmemR f (p (jq sw)) (pa (jq sw)) (s j) (sa j) wv C Sc (g 3) m' := by
    intro k
    induction k with
    | zero =>
      intro _
      refine ⟨n2, g 3, none, ?_, jmemR.rf⟩
      simp only [csp, cfl, cse, jup_self, ← hS1, ← hS2]
      rfl
    | succ k ih =>
      intro hk
      obtain ⟨n2', m', d4, he, hmr⟩ := ih (by omega)
      generalize hA : jup SS.1 4 (csp f (p (jq sw)) (pa (jq sw)) wv SS k) = A at he
      generalize hAA : jup SS.2 4 (cfl f (p (jq sw)) wv SS k) = AA at he
      have a0 : A 0 = SS.1 0 := by rw [← hA, jup_ne (by omega)]
      have a1 : A 1 = SS.1 1 := by rw [← hA, jup_ne (by omega)]
      have a2 : A 2 = SS.1 2 := by rw [← hA, jup_ne (by omega)]
      have aa0 : AA 0 = SS.2 0 := by rw [← hAA, jup_ne (by omega)]
      have aa2 : AA 2 = SS.2 2 := by rw [← hAA, jup_ne (by omega)]
      have aa3 : AA 3 = SS.2 3 := by rw [← hAA, jup_ne (by omega)]
      have aa4 : AA 4 k = SS.2 4 k := by rw [← hAA, jup_same]; exact cfl_ge (Nat.le_refl k)
      have hw' : ∀ s' : Nat → Nat → Int32, s' j 0 = SS.1 0 → cwnd f ((jup g 3 m') 2) (p (jq sw)) (pa (jq sw)) (s' j 0) = wv := by
        intro s' e; rw [jup_ne (by omega), e, ← hS1]; exact hwv
      have hw1 := hw' (jup s j A) (by rw [jup_same]; exact a0)
      have hfl := S_h_flapping (D := D) (i := k) (f := f) (g := jup g 3 m') (n2 := n2') (p := p) (pa := pa) (s := jup s j A) (sa := jup sa j AA) (sw := sw) (rp := rp) (t := t) (z := z) hj (by omega) hPl2
      rw [hw1, jup_same, jup_same, cflap_congr (a' := SS.1) (aa' := SS.2) a1 a2 (by rw [aa2]) aa4] at hfl
      have hlt : Int32.ofNat k < Int32.ofNat Sc := by rw [jltn (by omega) (by omega)]; omega
      have hspk : csp f (p (jq sw)) (pa (jq sw)) wv SS (k + 1) = if cflap f (p (jq sw)) SS.1 SS.2 wv k = 1 then csp f (p (jq sw)) (pa (jq sw)) wv SS k + cwage f (p (jq sw)) (pa (jq sw)) SS.1 SS.2 wv k else csp f (p (jq sw)) (pa (jq sw)) wv SS k := rfl
      have hflk : cfl f (p (jq sw)) wv SS (k + 1) = if cflap f (p (jq sw)) SS.1 SS.2 wv k = 1 then jup (cfl f (p (jq sw)) wv SS k) k (cfl f (p (jq sw)) wv SS k k + 1) else cfl f (p (jq sw)) wv SS k := rfl
      have hsek : cse f (p (jq sw)) (pa (jq sw)) wv C SS (k + 1) = if cflap f (p (jq sw)) SS.1 SS.2 wv k = 0 then cse f (p (jq sw)) (pa (jq sw)) wv C SS k else cse f (p (jq sw)) (pa (jq sw)) wv C SS k ||| jset (csees f (p (jq sw)) (pa (jq sw)) SS.1 SS.2 wv k) C := rfl
      -- what comes behind the pay, at any such state
      have h34 : ∀ (n3 : Nat → Nat → Int64) (B : Nat → Int32) (BB : Nat → Nat → Int32) (x4 : Int32), B 0 = SS.1 0 → B 1 = SS.1 1 → BB 0 = SS.2 0 → BB 3 = SS.2 3 →
          ∃ n3' m'' d4, K_h_pass_34 D j (cse f (p (jq sw)) (pa (jq sw)) wv C SS k) (Int32.ofNat k) x4 f (jup g 3 m') n3 p pa (jup s j B) (jup sa j BB) sw rp t z = K_h_pass_4 D j (if x4 = 0 then cse f (p (jq sw)) (pa (jq sw)) wv C SS k else cse f (p (jq sw)) (pa (jq sw)) wv C SS k ||| jset (csees f (p (jq sw)) (pa (jq sw)) SS.1 SS.2 wv k) C) (Int32.ofNat (k + 1)) d4 f (jup g 3 m'') n3' p pa (jup s j B) (jup sa j BB) sw rp t z ∧
            jmemR f (p (jq sw)) (pa (jq sw)) (s j) (sa j) wv C Sc (g 3) m'' := by
        intro n3 B BB x4 b0 b1 bb0 bb3
        rw [E_h_pass_34 hj]
        by_cases hx4 : x4 = 0
        · rw [if_pos hx4, if_pos hx4, E_h_pass_43 hj, jsucc]
          exact ⟨n3, m', _, rfl, hmr⟩
        · rw [if_neg hx4, if_neg hx4]
          have hw2 := hw' (jup s j B) (by rw [jup_same]; exact b0)
          obtain ⟨nm', st', m2, hsb, hmr2⟩ := S_h_seenBy (D := D) (i := k) (C := C) (Sc := Sc) (f := f) (g := jup g 3 m') (n2 := n3) (p := p) (pa := pa) (s := jup s j B) (sa := jup sa j BB) (sw := sw) (rp := rp) (t := t) (z := z) hj (by omega) hPl2 (by
            rw [hw2, jup_same, jup_same, jup_same, jmemO_congr (a' := s j) (aa' := sa j) (by rw [b0, hS1]) (by rw [b1, hS1]) (by rw [bb0, hS2]) (by rw [bb3, hS2])]
            exact hM.step hmr)
          rw [hw2, jup_same, jup_same, csees_congr (a' := SS.1) (aa' := SS.2) b0 b1 bb0 bb3, jup_jup] at hsb
          rw [hw2, jup_same, jup_same, jup_same, jmemR_congr (a' := s j) (aa' := sa j) (by rw [b0, hS1]) (by rw [b1, hS1]) (by rw [bb3, hS2])] at hmr2
          rw [hsb]
          simp only [jbO_some, jbO_none, jbO_ite, jk_some, jk_none, E_h_pass_41 hj, E_h_pass_43 hj, jsucc]
          exact ⟨_, m2, _, rfl, hmr.tr hmr2⟩
      rw [he, L_h_pass_4 hj, hS, if_pos hlt, hfl]
      simp only [jbO_some, jbO_none, jbO_ite, jk_some, jk_none, E_h_pass_13 hj]
      by_cases hf1 : cflap f (p (jq sw)) SS.1 SS.2 wv k = 1
      · rw [if_pos hf1] at hspk hflk ⊢
        obtain ⟨nm', st', hwg⟩ := S_h_wage (D := D) (i := k) (C := C) (Sc := Sc) (f := f) (g := jup g 3 m') (n2 := n2') (p := p) (pa := pa) (s := jup s j A) (sa := jup sa j AA) (sw := sw) (rp := rp) (t := t) (z := z) hj (by omega) hPl2
        rw [hw1, jup_same, jup_same, cwage_congr (a' := SS.1) (aa' := SS.2) a0 a1 aa3] at hwg
        simp (disch := omega) only [hwg, jbO_some, jbO_none, jbO_ite, jk_some, jk_none, E_h_pass_24, jout_f, jclamp, if_false, jup_same, jup_jup]
        obtain ⟨n3', m'', d4', h34e, hmr3⟩ := h34 (jup (jup n2' 0 nm') 1 st') (jup A 4 (A 4 + cwage f (p (jq sw)) (pa (jq sw)) SS.1 SS.2 wv k)) (jup AA 4 (jup (AA 4) k (AA 4 k + 1))) (cflap f (p (jq sw)) SS.1 SS.2 wv k) (by rw [jup_ne (by omega)]; exact a0) (by rw [jup_ne (by omega)]; exact a1) (by rw [jup_ne (by omega)]; exact aa0) (by rw [jup_ne (by omega)]; exact aa3)
        refine ⟨n3', m'', d4', ?_, hmr3⟩
        rw [h34e, ← hsek, hspk, hflk, ← hA, ← hAA]
        simp only [jup_same, jup_jup]
      · rw [if_neg hf1] at hspk hflk ⊢
        obtain ⟨n3', m'', d4', h34e, hmr3⟩ := h34 n2' A AA (cflap f (p (jq sw)) SS.1 SS.2 wv k) a0 a1 aa0 aa3
        refine ⟨n3', m'', d4', ?_, hmr3⟩
        rw [h34e, ← hsek, hspk, hflk, ← hA, ← hAA]
  obtain ⟨n2', m', d4, he, hmr⟩ := key Sc (Nat.le_refl Sc)
  have hlt : ¬ Int32.ofNat Sc < Int32.ofNat Sc := by rw [jltn (by omega) (by omega)]; omega
  generalize hse : cse f (p (jq sw)) (pa (jq sw)) wv C SS Sc = se at he
  generalize hTT : cS1 f (p (jq sw)) (pa (jq sw)) wv Sc SS = TT
  have hT1 : jup SS.1 4 (csp f (p (jq sw)) (pa (jq sw)) wv SS Sc) = TT.1 := by rw [← hTT]; rfl
  have hT2 : jup SS.2 4 (cfl f (p (jq sw)) wv SS Sc) = TT.2 := by rw [← hTT]; rfl
  rw [hT1, hT2] at he
  have t0 : TT.1 0 = SS.1 0 := by rw [← hT1, jup_ne (by omega)]
  have t1 : TT.1 1 = SS.1 1 := by rw [← hT1, jup_ne (by omega)]
  have tt0 : TT.2 0 = SS.2 0 := by rw [← hT2, jup_ne (by omega)]
  have tt1 : TT.2 1 = SS.2 1 := by rw [← hT2, jup_ne (by omega)]
  have hhT : TT.1 1 = Int32.ofNat h0 := by rw [t1, ← hS1]; exact hh
  have hnj : ¬ jout (Int32.ofNat h0) 12 := by rw [jout_f hh12 (by omega)]; exact fun q => q
  have haim := S_h_aim (D := D) (j := j) (f := f) (g := jup g 3 m') (n2 := n2') (p := p) (pa := pa) (s := jup s j TT.1) (sa := jup sa j TT.2) (sw := sw) (rp := rp) (t := t) (z := z) hj (by rw [jup_same, hhT]; exact hnj) hPl2
  rw [jup_same, jup_same, caim_congr (a' := SS.1) (aa' := SS.2) t1 tt0 tt1] at haim
  have hcS : cS f (p (jq sw)) (pa (jq sw)) wv C Sc SS = cS3 se (cS2 (p (jq sw)) (pa (jq sw)) wv se (caim f SS.1 SS.2 C) TT) := by unfold cS; rw [hse, hTT]
  have hwT : cwnd f ((jup g 3 m') 2) (p (jq sw)) (pa (jq sw)) ((jup s j TT.1) j 0) = wv := by
    rw [jup_ne (by omega), jup_same, t0, ← hS1]; exact hwv
  -- the end, at any such state
  have h85 : ∀ (n3 : Nat → Nat → Int64) (U : jS) d3 d4, U.1 1 = Int32.ofNat h0 → K_h_pass_85 D j se d3 d4 f (jup g 3 m') n3 p pa (jup s j U.1) (jup sa j U.2) sw rp t z = some (.inl none, (jX f (jup g 3 m') n3 p pa (jup s j (cS3 se U).1) (jup sa j (cS3 se U).2) sw rp t, z)) := by
    intro n3 U d3 d4 hu
    rw [E_h_pass_85 hj]
    simp only [jup_same, jup_jup, hu]
    rw [if_neg hnj]
    simp only [S_s_tick hj, jbO_some, jbO_none, jbO_ite, jk_some, jk_none, E_h_pass_93, jup_same, jup_jup, cS3, hu]
  rw [he, L_h_pass_4 hj, hS, if_neg hlt, haim]
  simp only [jbO_some, jbO_none, jbO_ite, jk_some, jk_none, E_h_pass_48 hj]
  rw [hcS]
  cases hcm : caim f SS.1 SS.2 C with
  | none =>
    simp +decide only [jopt, if_true, E_h_pass_64 hj, cS2]
    rw [h85 _ TT _ _ hhT]
    exact ⟨_, _, rfl, hmr⟩
  | some c =>
    have hc : c < C := caimk_lt hcm
    have hcn : ¬ Int32.ofNat c < 0 := jnonneg (by omega)
    simp only [jopt, cS2, hcn, if_false]
    by_cases hb : ((se >>> (Int32.ofNat c &&& 31)) &&& 1) = 0
    · obtain ⟨nm', st', hme⟩ := S_h_mealIn (D := D) (c := c) (C := C) (Sc := Sc) (f := f) (g := jup g 3 m') (n2 := n2') (p := p) (pa := pa) (s := jup s j TT.1) (sa := jup sa j TT.2) (sw := sw) (rp := rp) (t := t) (z := z) hj (by omega) hPl2
      rw [hwT, jup_same, jup_same] at hme
      have := h85 (jup (jup n2' 0 nm') 1 st') (jup TT.1 3 (TT.1 3 + cmeal (p (jq sw)) (pa (jq sw)) TT.1 TT.2 wv c), jup TT.2 0 (jup (TT.2 0) c (TT.2 0 c - cmeal (p (jq sw)) (pa (jq sw)) TT.1 TT.2 wv c))) (some (.int (Int32.ofNat c))) (some (.int (cmeal (p (jq sw)) (pa (jq sw)) TT.1 TT.2 wv c))) (by dsimp only; rw [jup_ne (by omega)]; exact hhT)
      dsimp only at this
      simp (disch := omega) only [hb, if_true, E_h_pass_64, hcn, if_false, hme, jbO_some, jbO_none, jbO_ite, jk_some, jk_none, E_h_pass_70, jout_f, jclamp, jup_same, jup_jup, this]
      exact ⟨_, _, rfl, hmr⟩
    · have := h85 n2' (jup TT.1 5 (TT.1 5 + 1), TT.2) (some (.int (Int32.ofNat c))) d4 (by dsimp only; rw [jup_ne (by omega)]; exact hhT)
      dsimp only at this
      simp only [hb, if_false, jup_same, jup_jup, this]
      exact ⟨_, _, rfl, hmr⟩
