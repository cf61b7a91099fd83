-- KEEPING: hours with what is kept of them
theorem cflap_f {tf tf' q a : Nat → Int32} {aa : Nat → Nat → Int32} {wv : Int32} {i : Nat} (h : ∀ k, 16 ≤ k → tf' k = tf k) : cflap tf' q a aa wv i = cflap tf q a aa wv i := by
  unfold cflap; rw [h 17 (by omega), h 19 (by omega), h 20 (by omega)]
theorem cwage_f {tf tf' q a : Nat → Int32} {qa aa : Nat → Nat → Int32} {wv : Int32} {i : Nat} (h : ∀ k, 16 ≤ k → tf' k = tf k) : cwage tf' q qa a aa wv i = cwage tf q qa a aa wv i := by
  unfold cwage cpayl; rw [h 18 (by omega)]
theorem csees_f {tf tf' q a : Nat → Int32} {qa aa : Nat → Nat → Int32} {wv : Int32} {i : Nat} (h : ∀ k, 16 ≤ k → tf' k = tf k) : csees tf' q qa a aa wv i = csees tf q qa a aa wv i := by
  funext c; unfold csees; rw [h 18 (by omega)]
theorem csp_f {tf tf' q : Nat → Int32} {qa : Nat → Nat → Int32} {wv : Int32} {S : jS} (h : ∀ k, 16 ≤ k → tf' k = tf k) : ∀ {n : Nat}, csp tf' q qa wv S n = csp tf q qa wv S n
  | 0 => rfl
  | n + 1 => by rw [csp, csp, csp_f h, cflap_f h, cwage_f h]
theorem cfl_f {tf tf' q : Nat → Int32} {wv : Int32} {S : jS} (h : ∀ k, 16 ≤ k → tf' k = tf k) : ∀ {n : Nat}, cfl tf' q wv S n = cfl tf q wv S n
  | 0 => rfl
  | n + 1 => by rw [cfl, cfl, cfl_f h, cflap_f h]
theorem cse_f {tf tf' q : Nat → Int32} {qa : Nat → Nat → Int32} {wv : Int32} {C : Nat} {S : jS} (h : ∀ k, 16 ≤ k → tf' k = tf k) : ∀ {n : Nat}, cse tf' q qa wv C S n = cse tf q qa wv C S n
  | 0 => rfl
  | n + 1 => by rw [cse, cse, cse_f h, cflap_f h, csees_f h]
theorem cS_f {tf tf' q : Nat → Int32} {qa : Nat → Nat → Int32} {wv : Int32} {C Sc : Nat} {S : jS} (h : ∀ k, 16 ≤ k → tf' k = tf k) : cS tf' q qa wv C Sc S = cS tf q qa wv C Sc S := by
  unfold cS cS1 caim; rw [cse_f h, csp_f h, cfl_f h, h 16 (by omega)]
theorem cwnd_f {tf tf' w9 q : Nat → Int32} {qa : Nat → Nat → Int32} {d : Int32} (h : ∀ k, 16 ≤ k → tf' k = tf k) : cwnd tf' w9 q qa d = cwnd tf w9 q qa d := by
  unfold cwnd; rw [h 21 (by omega), h 22 (by omega)]
theorem cN_f {tf tf' w9 q : Nat → Int32} {qa : Nat → Nat → Int32} {C Sc : Nat} {S : jS} (h : ∀ k, 16 ≤ k → tf' k = tf k) : ∀ {n : Nat}, cN tf' w9 q qa C Sc S n = cN tf w9 q qa C Sc S n
  | 0 => rfl
  | n + 1 => by rw [cN, cN, cN_f h, cwnd_f h, cS_f h]
theorem jent_cg {tf tf' q a a' : Nat → Int32} {qa aa aa' : Nat → Nat → Int32} {wv v : Int32} {C Sc row idx : Nat} (h18 : tf' 18 = tf 18) (h0 : a' 0 = a 0) (h1 : a' 1 = a 1) (h3 : aa' 3 = aa 3) : jent tf' q qa a' aa' wv C Sc row idx v = jent tf q qa a aa wv C Sc row idx v := by
  unfold jent; rw [h18, h0, h1, h3]
def jrow0 (T row : Nat) : Nat → Int32 := fun k => if k = 0 then Int32.ofNat ((T + row) / 12) else Int32.ofNat ((T + row) % 12)
/-- what is kept of the hours from T on is right -/
def jmm (tf q : Nat → Int32) (qa : Nat → Nat → Int32) (w9 : Nat → Int32) (T : Nat) (gr : Nat → Int32) (C Sc : Nat) (m : Nat → Int32) : Prop :=
  ∀ row, row < 36 → ∀ i, i < Sc → ∀ c, c < C → m ((row * 6 + i) * 30 + c) = -1 ∨ jent tf q qa (jrow0 T row) (fun _ => gr) (cwnd tf w9 q qa (Int32.ofNat ((T + row) / 12))) C Sc row ((row * 6 + i) * 30 + c) (m ((row * 6 + i) * 30 + c))
theorem jmm_f {tf tf' q : Nat → Int32} {qa : Nat → Nat → Int32} {w9 : Nat → Int32} {T : Nat} {gr : Nat → Int32} {C Sc : Nat} {m : Nat → Int32} (h : ∀ k, 16 ≤ k → tf' k = tf k) (hm : jmm tf q qa w9 T gr C Sc m) : jmm tf' q qa w9 T gr C Sc m := by
  intro row hr i hi c hc
  rcases hm row hr i hi c hc with a | a
  · exact Or.inl a
  · right; rw [cwnd_f h, jent_cg (tf := tf) (h 18 (by omega)) rfl rfl rfl]; exact a
theorem S_passHours {D T n : Nat} {C Sc : Nat} {lim : Int32} {gr : Nat → Int32} {f : Nat → Int32} {g : Nat → Nat → Int32} {n2 : Nat → Nat → Int64} {p : Nat → Nat → Int32} {pa : Nat → Nat → Nat → Int32} {s : Nat → Nat → Int32} {sa : Nat → Nat → Nat → Int32} {sw : Bool} {rp : Value} {t : List jE} {z : Nat × Nat × Nat × (Nat → Int32)} (hT : jtm (s 2, sa 2) T) (hPl : jPl (p (jq sw)) (pa (jq sw)) C Sc) (h14 : ¬ f 14 = 0) (hn : n ≤ 36) (hcr : jCr C (s 2, sa 2)) (hq : ∃ r : Nat, r < 100 ∧ p (jq sw) 7 = Int32.ofNat r) (hgr : sa 2 3 = gr) (hm : jmm f (p (jq sw)) (pa (jq sw)) (g 2) T gr C Sc (g 3)) :
    ∃ y n2' m' k, k ≤ n ∧ K_h_passHours D 2 (Int32.ofNat n) lim f g n2 p pa s sa sw rp t z = some (.inl none, (jX (jup f 15 y) (jup g 3 m') n2' p pa (jup s 2 (cN f (g 2) (p (jq sw)) (pa (jq sw)) C Sc (s 2, sa 2) k).1) (jup sa 2 (cN f (g 2) (p (jq sw)) (pa (jq sw)) C Sc (s 2, sa 2) k).2) sw rp t, z)) ∧ jmm f (p (jq sw)) (pa (jq sw)) (g 2) T gr C Sc m' ∧ (k = n ∨ ¬ (cN f (g 2) (p (jq sw)) (pa (jq sw)) C Sc (s 2, sa 2) k).1 3 < lim) := by
  have hC30 : C ≤ 30 := hPl.2.1
  have hS6 : Sc ≤ 6 := hPl.2.2.2.2.2.1
  have key : ∀ c k y n2 m, n - k = c → k ≤ n → jmm f (p (jq sw)) (pa (jq sw)) (g 2) T gr C Sc m → ∃ y' n2' m' k', k' ≤ n ∧ K_h_passHours_2 D 2 (Int32.ofNat n) lim (Int32.ofNat k) (jup f 15 y) (jup g 3 m) n2 p pa (jup s 2 (cN f (g 2) (p (jq sw)) (pa (jq sw)) C Sc (s 2, sa 2) k).1) (jup sa 2 (cN f (g 2) (p (jq sw)) (pa (jq sw)) C Sc (s 2, sa 2) k).2) sw rp t z = some (.inl none, (jX (jup f 15 y') (jup g 3 m') n2' p pa (jup s 2 (cN f (g 2) (p (jq sw)) (pa (jq sw)) C Sc (s 2, sa 2) k').1) (jup sa 2 (cN f (g 2) (p (jq sw)) (pa (jq sw)) C Sc (s 2, sa 2) k').2) sw rp t, z)) ∧ jmm f (p (jq sw)) (pa (jq sw)) (g 2) T gr C Sc m' ∧ (k' = n ∨ ¬ (cN f (g 2) (p (jq sw)) (pa (jq sw)) C Sc (s 2, sa 2) k').1 3 < lim) := by
    intro c
    induction c with
    | zero =>
      intro k y n2 m hc hk hmm
      refine ⟨y, n2, m, k, hk, ?_, hmm, Or.inl (by omega)⟩
      rw [L_h_passHours_2 (by omega), if_neg (jlt_n (by omega) (by omega))]
    | succ c ih =>
      intro k y n2 m hc hk hmm
      by_cases hl : (cN f (g 2) (p (jq sw)) (pa (jq sw)) C Sc (s 2, sa 2) k).1 3 < lim
      rotate_left
      · refine ⟨y, n2, m, k, hk, ?_, hmm, Or.inr hl⟩
        rw [L_h_passHours_2 (by omega), if_pos (jlt_t (by omega) (by omega)), jup_same, if_neg hl]
      have htm := cN_tm (tf := f) (w9 := g 2) (q := p (jq sw)) (qa := pa (jq sw)) (C := C) (Sc := Sc) hT k
      have hkp := cN_keep (tf := f) (w9 := g 2) (q := p (jq sw)) (qa := pa (jq sw)) (C := C) (Sc := Sc) hq hcr k
      have hk36 : k < 36 := by omega
      have hfk : ∀ x, 16 ≤ x → (jup f 15 (Int32.ofNat k)) x = f x := fun x hx => jup_ne (by omega)
      generalize hSk : cN f (g 2) (p (jq sw)) (pa (jq sw)) C Sc (s 2, sa 2) k = Sk at hl htm hkp
      have hw : cwnd (jup f 15 (Int32.ofNat k)) ((jup g 3 m) 2) (p (jq sw)) (pa (jq sw)) ((jup s 2 Sk.1) 2 0) = cwnd f (g 2) (p (jq sw)) (pa (jq sw)) (Int32.ofNat ((T + k) / 12)) := by
        rw [cwnd_f hfk, jup_ne (show (2 : Nat) ≠ 3 by omega), jup_same, htm.1]
      have hw0 : Sk.1 0 = jrow0 T k 0 := by rw [htm.1]; rfl
      have hw1 : Sk.1 1 = jrow0 T k 1 := by rw [htm.2]; rfl
      obtain ⟨n2', m', hp, hmr⟩ := S_h_pass (D := D) (j := 2) (h0 := (T + k) % 12) (C := C) (Sc := Sc) (f := jup f 15 (Int32.ofNat k)) (g := jup g 3 m) (n2 := n2) (p := p) (pa := pa) (s := jup s 2 Sk.1) (sa := jup sa 2 Sk.2) (sw := sw) (rp := rp) (t := t) (z := z) (by omega) (by rw [jup_same]; exact htm.2) (Nat.mod_lt _ (by omega)) hPl (by
        right
        refine ⟨k, hk36, jup_same, ?_, ?_⟩
        · rw [jup_same]; exact hkp.2.2.1
        · intro i hi c' hc'
          rw [jup_same, hw]
          rcases hmm k hk36 i hi c' hc' with a | a
          · exact Or.inl a
          · right
            rw [jup_same, jup_same]
            rw [jent_cg (tf := f) (a := jrow0 T k) (aa := fun _ => gr) (hfk 18 (by omega)) hw0 hw1 (hkp.2.1.trans hgr)]
            exact a)
      rw [hw] at hp hmr
      simp only [jup_same, jup_jup] at hp hmr
      rw [cS_f hfk] at hp
      have hnext : cN f (g 2) (p (jq sw)) (pa (jq sw)) C Sc (s 2, sa 2) (k + 1) = cS f (p (jq sw)) (pa (jq sw)) (cwnd f (g 2) (p (jq sw)) (pa (jq sw)) (Int32.ofNat ((T + k) / 12))) C Sc Sk := by
        rw [cN, hSk, htm.1]
      rw [show ((Sk.1, Sk.2) : jS) = Sk from rfl, ← hnext] at hp
      have hmm' : jmm f (p (jq sw)) (pa (jq sw)) (g 2) T gr C Sc m' := by
        intro row hr i hi c' hc'
        rcases hmr ((row * 6 + i) * 30 + c') with a | ⟨row2, hr2, hf2, a⟩
        · rw [a]; exact hmm row hr i hi c' hc'
        · right
          have hrk : row2 = k := by rw [jup_same] at hf2; exact (jofinj (by omega) (by omega) hf2).symm
          subst hrk
          rw [jent_cg (tf := f) (a := jrow0 T row2) (aa := fun _ => gr) (hfk 18 (by omega)) hw0 hw1 (hkp.2.1.trans hgr)] at a
          obtain ⟨i2, c2, r2, b1, b2, b3, b4, b5⟩ := id a
          have hrr : row = row2 := by omega
          subst hrr
          exact a
      obtain ⟨y', n3, m3, k', z1', z2, z3, z4⟩ := ih (k + 1) (Int32.ofNat k) n2' m' (by omega) (by omega) hmm'
      refine ⟨y', n3, m3, k', z1', ?_, z3, z4⟩
      rw [← z2, L_h_passHours_2 (by omega), if_pos (jlt_t (by omega) (by omega)), jup_same, if_pos hl, if_neg (by rw [jup_ne (by omega)]; exact h14), E_h_passHours_16 (by omega), jup_jup, hp, jbO_some, jk_none, E_h_passHours_20 (by omega), jsucc]
  obtain ⟨y', n2', m', k', a1, a2, a3, a4⟩ := key n 0 (f 15) n2 (g 3) (by omega) (Nat.zero_le _) hm
  refine ⟨y', n2', m', k', a1, ?_, a3, a4⟩
  rw [E_h_passHours (by omega), ← a2]
  simp only [cN, jup_self]
  rfl
