-- KEEPING: what a try leaves, what is eaten
def jnk (A B : jS) : Prop := (∀ k, 6 ≤ k → A.1 k = B.1 k) ∧ ∀ k i, (5 ≤ k ∨ (k = 0 ∧ 30 ≤ i) ∨ (k = 1 ∧ 12 ≤ i) ∨ (2 ≤ k ∧ 6 ≤ i)) → A.2 k i = B.2 k i
theorem jnk.rf {A : jS} : jnk A A := ⟨fun _ _ => rfl, fun _ _ _ => rfl⟩
theorem jnk.tr {A B C : jS} (h : jnk A B) (h' : jnk B C) : jnk A C := ⟨fun k hk => (h.1 k hk).trans (h'.1 k hk), fun k i hk => (h.2 k i hk).trans (h'.2 k i hk)⟩
theorem jtry_jnk {A B S : jS} (h : jnk A B) : jtry A S = jtry B S := by
  unfold jtry jcpS
  apply Prod.ext
  · dsimp only
    funext k
    by_cases k5 : k = 5
    · subst k5; rw [jup_same, jup_same]
    by_cases k4 : k = 4
    · subst k4; rw [jup_ne (by omega), jup_same, jup_ne (by omega), jup_same]
    by_cases k3 : k = 3
    · subst k3; simp (disch := omega) only [jup_ne, jup_same]
    by_cases k2 : k = 2
    · subst k2; simp (disch := omega) only [jup_ne, jup_same]
    by_cases k1 : k = 1
    · subst k1; simp (disch := omega) only [jup_ne, jup_same]
    by_cases k0 : k = 0
    · subst k0; simp (disch := omega) only [jup_ne, jup_same]
    · simp only [jup_ne k5, jup_ne k4, jup_ne k3, jup_ne k2, jup_ne k1, jup_ne k0]
      exact h.1 k (by omega)
  · dsimp only
    funext k i
    have hc : ∀ (j n : Nat) (v : Nat → Int32), (∀ i, n ≤ i → A.2 j i = B.2 j i) → jcpy v (A.2 j) 0 0 n = jcpy v (B.2 j) 0 0 n := by
      intro j n v hh
      funext i
      by_cases hi : i < n
      · rw [jcpy_at hi, jcpy_at hi]
      · rw [jcpy_out hi, jcpy_out hi]; exact hh i (by omega)
    rw [hc 0 30 _ (fun i hi => h.2 0 i (by omega)), hc 1 12 _ (fun i hi => h.2 1 i (by omega)), hc 2 6 _ (fun i hi => h.2 2 i (by omega)), hc 3 6 _ (fun i hi => h.2 3 i (by omega)), hc 4 6 _ (fun i hi => h.2 4 i (by omega))]
    by_cases k4 : k = 4
    · subst k4; rw [jup_same, jup_same]
    by_cases k3 : k = 3
    · subst k3; simp (disch := omega) only [jup_ne, jup_same]
    by_cases k2 : k = 2
    · subst k2; simp (disch := omega) only [jup_ne, jup_same]
    by_cases k1 : k = 1
    · subst k1; simp (disch := omega) only [jup_ne, jup_same]
    by_cases k0 : k = 0
    · subst k0; simp (disch := omega) only [jup_ne, jup_same]
    · simp only [jup_ne k4, jup_ne k3, jup_ne k2, jup_ne k1, jup_ne k0]
      exact h.2 k i (by omega)
theorem jtry_nk {A S : jS} : jnk (jtry A S) A := by
  unfold jtry jcpS
  refine ⟨fun k hk => ?_, fun k i hk => ?_⟩
  · dsimp only; simp (disch := omega) only [jup_ne]
  · dsimp only
    by_cases k4 : k = 4
    · subst k4; rw [jup_same, jcpy_out (by omega)]
    rw [jup_ne k4]
    by_cases k3 : k = 3
    · subst k3; rw [jup_same, jcpy_out (by omega)]
    rw [jup_ne k3]
    by_cases k2 : k = 2
    · subst k2; rw [jup_same, jcpy_out (by omega)]
    rw [jup_ne k2]
    by_cases k1 : k = 1
    · subst k1; rw [jup_same, jcpy_out (by omega)]
    rw [jup_ne k1]
    by_cases k0 : k = 0
    · subst k0; rw [jup_same, jcpy_out (by omega)]
    rw [jup_ne k0]
theorem jnk_1 {S : jS} {k : Nat} {v : Int32} (hk : k < 6) : jnk (jup S.1 k v, S.2) S := ⟨fun x hx => by dsimp only; rw [jup_ne (by omega)], fun _ _ _ => rfl⟩
theorem jnk_2 {S : jS} {k i : Nat} {v : Int32} (hk : ¬ (5 ≤ k ∨ (k = 0 ∧ 30 ≤ i) ∨ (k = 1 ∧ 12 ≤ i) ∨ (2 ≤ k ∧ 6 ≤ i))) : jnk (S.1, jup S.2 k (jup (S.2 k) i v)) S := by
  refine ⟨fun _ _ => rfl, fun x y hx => ?_⟩
  dsimp only
  by_cases hxk : x = k
  · subst hxk; rw [jup_same, jup_ne (by omega)]
  · rw [jup_ne hxk]
theorem cS_jnk {tf q : Nat → Int32} {qa : Nat → Nat → Int32} {wv : Int32} {C Sc h : Nat} {S : jS} (hC : C ≤ 30) (hS : Sc ≤ 6) (hh : S.1 1 = Int32.ofNat h) (hh12 : h < 12) : jnk (cS tf q qa wv C Sc S) S := by
  have h1 : jnk (cS1 tf q qa wv Sc S) S := by
    unfold cS1
    refine ⟨fun k hk => by dsimp only; rw [jup_ne (by omega)], fun k i hk => ?_⟩
    dsimp only
    by_cases k4 : k = 4
    · subst k4; rw [jup_same]; exact cfl_ge (by omega)
    · rw [jup_ne k4]
  have h11 : (cS1 tf q qa wv Sc S).1 1 = Int32.ofNat h := by unfold cS1; dsimp only; rw [jup_ne (by omega)]; exact hh
  unfold cS
  generalize haim : caim tf S.1 S.2 C = cm
  generalize cse tf q qa wv C S Sc = se
  generalize cS1 tf q qa wv Sc S = S1 at h1 h11
  have h2 : jnk (cS2 q qa wv se cm S1) S1 ∧ (cS2 q qa wv se cm S1).1 1 = Int32.ofNat h := by
    unfold cS2
    cases cm with
    | none => exact ⟨jnk.rf, h11⟩
    | some c =>
      have hc := caim_lt haim
      dsimp only
      split
      · refine ⟨⟨fun k hk => by dsimp only; rw [jup_ne (by omega)], fun k i hk => ?_⟩, ?_⟩
        · dsimp only
          by_cases k0 : k = 0
          · subst k0; rw [jup_same, jup_ne (by omega)]
          · rw [jup_ne k0]
        · dsimp only; rw [jup_ne (by omega)]; exact h11
      · refine ⟨jnk_1 (by omega), ?_⟩
        dsimp only; rw [jup_ne (by omega)]; exact h11
  obtain ⟨h2, h21⟩ := h2
  generalize cS2 q qa wv se cm S1 = S2 at h2 h21
  refine jnk.tr ?_ (h2.tr h1)
  unfold cS3
  rw [h21, jclamp (by omega)]
  have h3 : jnk (S2.1, jup S2.2 1 (jup (S2.2 1) h se)) S2 := jnk_2 (by omega)
  refine jnk.tr ?_ h3
  generalize ((S2.1, jup S2.2 1 (jup (S2.2 1) h se)) : jS) = S3
  unfold ctick
  split
  · exact jnk_1 (by omega)
  · refine ⟨fun k hk => by dsimp only; rw [jup_ne (by omega), jup_ne (by omega)], fun k i hk => ?_⟩
    dsimp only
    by_cases k4 : k = 4
    · subst k4; rw [jup_same]; unfold jfil; rw [if_neg (by omega)]
    · rw [jup_ne k4]
theorem cN_jnk {tf w9 q : Nat → Int32} {qa : Nat → Nat → Int32} {C Sc T : Nat} {S : jS} (hC : C ≤ 30) (hS : Sc ≤ 6) (hT : jtm S T) : ∀ n, jnk (cN tf w9 q qa C Sc S n) S
  | 0 => jnk.rf
  | n + 1 => by
    rw [cN]
    exact (cS_jnk hC hS (cN_tm hT n).2 (Nat.mod_lt _ (by omega))).tr (cN_jnk hC hS hT n)
/-- the sum of crops -/
def jcs (v : Nat → Int32) : Nat → Nat
  | 0 => 0
  | n + 1 => jcs v n + (v n).toNatClampNeg
theorem jcs_up {v : Nat → Int32} {c : Nat} {x : Int32} : ∀ {n : Nat}, (c < n → jcs (jup v c x) n + (v c).toNatClampNeg = jcs v n + x.toNatClampNeg) ∧ (n ≤ c → jcs (jup v c x) n = jcs v n)
  | 0 => ⟨fun h => absurd h (Nat.not_lt_zero c), fun _ => rfl⟩
  | n + 1 => by
    have ih := jcs_up (v := v) (c := c) (x := x) (n := n)
    refine ⟨fun h => ?_, fun h => ?_⟩
    · rw [jcs, jcs]
      by_cases hcn : c = n
      · subst hcn; rw [jup_same, ih.2 (Nat.le_refl c)]; omega
      · rw [jup_ne (fun q => hcn q.symm)]
        have := ih.1 (by omega); omega
    · rw [jcs, jcs, jup_ne (by omega), ih.2 (by omega)]
theorem jcs_le {v : Nat → Int32} : ∀ {n : Nat}, (∀ c, c < n → ∃ r : Nat, r < 100 ∧ v c = Int32.ofNat r) → jcs v n ≤ 99 * n
  | 0, _ => Nat.le_refl 0
  | n + 1, h => by
    have ih := jcs_le (v := v) (n := n) (fun c hc => h c (by omega))
    obtain ⟨r, hr, e⟩ := h n (by omega)
    rw [jcs, e, jclamp (by omega)]; omega
theorem ctick_13 {S : jS} : (ctick S).1 3 = S.1 3 := by
  unfold ctick
  split
  · dsimp only; rw [jup_ne (by omega)]
  · dsimp only; rw [jup_ne (by omega), jup_ne (by omega)]
/-- what is eaten in an hour leaves the field -/
theorem cS_eat {tf q : Nat → Int32} {qa : Nat → Nat → Int32} {wv : Int32} {C Sc e : Nat} {S : jS} (hq : ∃ r : Nat, r < 100 ∧ q 7 = Int32.ofNat r) (h : jCr C S) (he : S.1 3 = Int32.ofNat e) : ∃ e', e ≤ e' ∧ (cS tf q qa wv C Sc S).1 3 = Int32.ofNat e' ∧ e' + jcs ((cS tf q qa wv C Sc S).2 0) C = e + jcs (S.2 0) C := by
  have h1 : (cS1 tf q qa wv Sc S).2 0 = S.2 0 := by unfold cS1; dsimp only; rw [jup_ne (by omega)]
  have h13 : (cS1 tf q qa wv Sc S).1 3 = Int32.ofNat e := by unfold cS1; dsimp only; rw [jup_ne (by omega)]; exact he
  unfold cS cS3
  rw [ctick_12.2.2, ctick_13]
  dsimp only
  rw [jup_ne (by omega)]
  generalize haim : caim tf S.1 S.2 C = cm
  generalize cse tf q qa wv C S Sc = se
  unfold cS2
  cases cm with
  | none => exact ⟨e, Nat.le_refl e, h13, by rw [h1]⟩
  | some c =>
    dsimp only
    split
    · have hc := caim_lt haim
      obtain ⟨r, hr, hrc⟩ := h.1 c hc
      obtain ⟨m, hm, hme⟩ := cmeal_rng (q := q) (qa := qa) (a := (cS1 tf q qa wv Sc S).1) (aa := (cS1 tf q qa wv Sc S).2) (wv := wv) (c := c) hq hr (by rw [h1]; exact hrc)
      dsimp only
      refine ⟨e + m, by omega, ?_, ?_⟩
      · rw [jup_same, h13, hme, jofadd]
      · rw [jup_same, hme, h1, hrc, ← Int32.ofNat_sub r m hm]
        have := (jcs_up (v := S.2 0) (c := c) (x := Int32.ofNat (r - m)) (n := C)).1 hc
        rw [hrc, jclamp (by omega), jclamp (by omega)] at this
        omega
    · dsimp only
      exact ⟨e, Nat.le_refl e, by rw [jup_ne (by omega)]; exact h13, by rw [h1]⟩
theorem cN_eat {tf w9 q : Nat → Int32} {qa : Nat → Nat → Int32} {C Sc : Nat} {S : jS} (hq : ∃ r : Nat, r < 100 ∧ q 7 = Int32.ofNat r) (h : jCr C S) (he : S.1 3 = 0) : ∃ e : Nat → Nat, (∀ n, (cN tf w9 q qa C Sc S n).1 3 = Int32.ofNat (e n) ∧ e n + jcs ((cN tf w9 q qa C Sc S n).2 0) C = jcs (S.2 0) C) ∧ ∀ n, e n ≤ e (n + 1) := by
  have hex : ∀ n, ∃ e, (cN tf w9 q qa C Sc S n).1 3 = Int32.ofNat e ∧ e + jcs ((cN tf w9 q qa C Sc S n).2 0) C = jcs (S.2 0) C := by
    intro n
    induction n with
    | zero => exact ⟨0, he, by rw [cN]; omega⟩
    | succ n ih =>
      obtain ⟨e, e1, e2⟩ := ih
      obtain ⟨e', x1, x2, x3⟩ := cS_eat (tf := tf) (qa := qa) (wv := cwnd tf w9 q qa ((cN tf w9 q qa C Sc S n).1 0)) (Sc := Sc) hq (cN_keep hq h n).2.2 e1
      exact ⟨e', by rw [cN]; exact x2, by rw [cN]; omega⟩
  refine ⟨fun n => jcs (S.2 0) C - jcs ((cN tf w9 q qa C Sc S n).2 0) C, fun n => ?_, fun n => ?_⟩
  · obtain ⟨e, e1, e2⟩ := hex n
    have : jcs (S.2 0) C - jcs ((cN tf w9 q qa C Sc S n).2 0) C = e := by omega
    dsimp only
    rw [this]; exact ⟨e1, e2⟩
  · obtain ⟨e, e1, e2⟩ := hex n
    obtain ⟨e', x1, x2, x3⟩ := cS_eat (tf := tf) (qa := qa) (wv := cwnd tf w9 q qa ((cN tf w9 q qa C Sc S n).1 0)) (Sc := Sc) hq (cN_keep (tf := tf) (w9 := w9) (qa := qa) (Sc := Sc) hq h n).2.2 e1
    have x3' : e' + jcs ((cN tf w9 q qa C Sc S (n + 1)).2 0) C = e + jcs ((cN tf w9 q qa C Sc S n).2 0) C := x3
    dsimp only
    omega
