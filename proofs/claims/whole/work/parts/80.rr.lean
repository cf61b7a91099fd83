-- THE TWO OBJECTS SIDE BY SIDE: what holds between two calls
def jneu (f : Nat → Int32) : Prop := f 14 = 0 ∧ f 15 = -1 ∧ f 16 = 0 ∧ f 17 = 0 ∧ f 18 = 0 ∧ f 19 = 0 ∧ f 20 = 0 ∧ f 21 = 0
def mneu (mf : Nat → Int32) : Prop := mf 16 = -1 ∧ mf 19 = -1 ∧ mf 20 = -1
def jCr (C : Nat) (S : jS) : Prop := (∀ c, c < C → ∃ r : Nat, r < 100 ∧ S.2 0 c = Int32.ofNat r) ∧ ∀ c, C ≤ c → c < 30 → S.2 0 c = 0
def jOth (Sc : Nat) (S : jS) : Prop := (∃ k : Nat, k < 64 ∧ S.1 2 = Int32.ofNat k) ∧ ∀ i, i < Sc → ∃ r : Nat, r < 10 ∧ S.2 3 i = Int32.ofNat r
/-- a frame that is kept -/
def rFr (C Sc : Nat) (S : jS) (F : Nat) (mg : Nat → Nat → Int32) : Prop := rSt C Sc S 0 0 0 (-1) F mg ∧ mg 19 F = S.1 2 ∧ (∃ T, jtm S T ∧ T < 12000) ∧ jCr C S ∧ jOth Sc S
/-- one step taken back -/
def jrv (kd sc old : Int32) (S : jS) : jS := if kd = 0 then (S.1, jup S.2 2 (jup (S.2 2) sc.toNatClampNeg old)) else if kd = 2 then (S.1, jup S.2 3 (jup (S.2 3) sc.toNatClampNeg old)) else (jup S.1 2 old, S.2)
/-- m of u steps taken back -/
def jun (g : Nat → Nat → Int32) (u : Nat) (S : jS) : Nat → jS
  | 0 => S
  | m + 1 => jrv (g 4 (u - 1 - m)) (g 5 (u - 1 - m)) (g 6 (u - 1 - m)) (jun g u S m)
def rUn (C Sc : Nat) (S : jS) (f : Nat → Int32) (g : Nat → Nat → Int32) (mf : Nat → Int32) (mg : Nat → Nat → Int32) : Prop :=
  ∃ u, u ≤ 20 ∧ f 23 = Int32.ofNat u ∧ mf 18 = Int32.ofNat u ∧ (∀ m, m < u → rFr C Sc (jun g u S (m + 1)) (3 + (u - 1 - m)) mg) ∧ ∀ k, k < u → ∃ i, i < Sc ∧ g 5 k = Int32.ofNat i
def rIm (C Sc : Nat) (S : jS) (f mf : Nat → Int32) (mg : Nat → Nat → Int32) : Prop := f 1 = mf 17 ∧ (f 1 = 0 ∨ f 1 = 1) ∧ (¬ f 1 = 0 → rFr C Sc S 2 mg)
def rNo (C : Nat) (f : Nat → Int32) (g : Nat → Nat → Int32) (mf : Nat → Int32) (mg mb : Nat → Nat → Int32) : Prop :=
  ∃ nn, nn ≤ 24 ∧ f 24 = Int32.ofNat nn ∧ mf 23 = Int32.ofNat nn ∧ f 25 = mf 24 ∧ (f 25 = -1 ∨ ∃ k, k ≤ nn ∧ f 25 = Int32.ofNat k) ∧
    ∀ i, i < nn → (g 7 i = 0 ∧ mg 33 i = g 9 i ∧ (∃ j, j < i ∧ g 9 i = Int32.ofNat j)) ∨
      ((g 7 i = 1 ∨ g 7 i = 2) ∧ mg 33 i = -1 ∧ mg 30 i = g 8 i ∧ mg 31 i = g 9 i ∧ mg 32 i = g 10 i ∧ (∃ h, 1 ≤ h ∧ h ≤ 48 ∧ g 8 i = Int32.ofNat h) ∧ (∃ c, c < C ∧ g 9 i = Int32.ofNat c) ∧ mb 0 i = (if g 7 i = 2 then 1 else 0))
def rTa (f : Nat → Int32) (g : Nat → Nat → Int32) (mf : Nat → Int32) (mg : Nat → Nat → Int32) : Prop :=
  ∃ tl, tl ≤ 700 ∧ f 0 = Int32.ofNat tl ∧ mf 1 = Int32.ofNat tl ∧ ∀ i, i < tl → mg 0 i = g 0 i ∧ ∃ b : Nat, b < 256 ∧ g 0 i = Int32.ofNat b
/-- the words of the language, packed -/
def jpkw : List Nat → Int32
  | a => (List.range 6).foldl (fun x k => if k < a.length then x ||| (Int32.ofNat (a.getD k 0 - 96) <<< (Int32.ofNat (5 * (5 - k)) &&& 31)) else x) 0
def jwrds : List (List Nat) := [[102,105,101,108,100],[99,114,111,112],[115,99,97,114,101],[102,108,97,112],[109,111,115,116],[99,114,111,119,115],[103,117,115,116],[115,101,101,100],[108,97,119],[115,101,101],[101,97,116],[112,97,121],[111,114],[97,110,100],[110,111,116],[115,105,103,104,116],[102,97,114],[119,105,110,100],[104,111,117,114],[103,114,97,100,101],[114,105,112,101],[100,97,116,101]]
def rWd (g : Nat → Nat → Int32) : Prop := ∀ w, w < 22 → g 1 w = jpkw (jwrds.getD w [])
def RR (f : Nat → Int32) (g : Nat → Nat → Int32) (p : Nat → Nat → Int32) (pa : Nat → Nat → Nat → Int32) (s : Nat → Nat → Int32) (sa : Nat → Nat → Nat → Int32) (sw : Bool) (mf : Nat → Int32) (mg mb : Nat → Nat → Int32) : Prop :=
  ∃ C Sc, rPl (p (jq sw)) (pa (jq sw)) C Sc mg ∧ (∃ r : Nat, r < 100 ∧ p (jq sw) 7 = Int32.ofNat r) ∧ jneu f ∧ mneu mf ∧ rFr C Sc (s 0, sa 0) 0 mg ∧ rIm C Sc (s 1, sa 1) f mf mg ∧ rUn C Sc (s 0, sa 0) f g mf mg ∧ rNo C f g mf mg mb ∧ rTa f g mf mg ∧ (f 7 = mf 11 ∧ f 8 = mf 12) ∧ rWd g ∧ ∃ m : Nat, m < 100 ∧ p (jq sw) 6 = Int32.ofNat m
/-- nothing of the reference that is kept has changed -/
def jq1 (g g' : Nat → Nat → Int32) : Prop :=
  (∀ k, k < 14 ∨ (30 ≤ k ∧ k ≤ 33) → g' k = g k) ∧ (∀ k, 14 ≤ k → k < 20 → ∀ i, i ≠ 1 → g' k i = g k i) ∧ (∀ i, i < 30 * 1 ∨ 30 * 1 + 30 ≤ i → g' 20 i = g 20 i) ∧
  (∀ i, i < 12 * 1 ∨ 12 * 1 + 12 ≤ i → g' 21 i = g 21 i) ∧ (∀ k, 22 ≤ k → k ≤ 24 → ∀ i, i < 6 * 1 ∨ 6 * 1 + 6 ≤ i → g' k i = g k i)
theorem jq1.rf {g : Nat → Nat → Int32} : jq1 g g := ⟨fun _ _ => rfl, fun _ _ _ _ _ => rfl, fun _ _ => rfl, fun _ _ => rfl, fun _ _ _ _ _ => rfl⟩
theorem jq1.tr {g g' g'' : Nat → Nat → Int32} (h1 : jq1 g g') (h2 : jq1 g' g'') : jq1 g g'' :=
  ⟨fun k hk => (h2.1 k hk).trans (h1.1 k hk), fun k a b i c => (h2.2.1 k a b i c).trans (h1.2.1 k a b i c), fun i h => (h2.2.2.1 i h).trans (h1.2.2.1 i h), fun i h => (h2.2.2.2.1 i h).trans (h1.2.2.2.1 i h), fun k a b i c => (h2.2.2.2.2 k a b i c).trans (h1.2.2.2.2 k a b i c)⟩
theorem jq1.of {g g' : Nat → Nat → Int32} (h : jfo 1 g g') : jq1 g g' := ⟨fun k hk => h.1 k (by omega), h.2.1, h.2.2.1, h.2.2.2.1, h.2.2.2.2⟩
theorem jq1.st {F C Sc : Nat} {S : jS} {e0 p0 c0 tw : Int32} {g g' : Nat → Nat → Int32} (h : jq1 g g') (hF : F ≠ 1) (hC : C ≤ 30) (hS : Sc ≤ 6) (hp : rSt C Sc S e0 p0 c0 tw F g) : rSt C Sc S e0 p0 c0 tw F g' := by
  obtain ⟨h1, h2, h3, h4, h5⟩ := h
  obtain ⟨a1, a2, a3, a4, a5, a6, a7, a8, a9⟩ := hp
  refine ⟨?_, ?_, ?_, ?_, ?_, ?_, ?_, ?_, ?_⟩
  · rw [h2 14 (by omega) (by omega) F hF]; exact a1
  · rw [h2 15 (by omega) (by omega) F hF]; exact a2
  · rw [h2 16 (by omega) (by omega) F hF]; exact a3
  · rw [h2 17 (by omega) (by omega) F hF]; exact a4
  · rw [h2 18 (by omega) (by omega) F hF]; exact a5
  · rw [h2 19 (by omega) (by omega) F hF]; exact a6
  · intro c hc; rw [h3 _ (by omega)]; exact a7 c hc
  · intro x hx; rw [h4 _ (by omega)]; exact a8 x hx
  · intro i hi; rw [h5 23 (by omega) (by omega) _ (by omega), h5 24 (by omega) (by omega) _ (by omega), h5 22 (by omega) (by omega) _ (by omega)]; exact a9 i hi
theorem jq1.fr {F C Sc : Nat} {S : jS} {g g' : Nat → Nat → Int32} (h : jq1 g g') (hF : F ≠ 1) (hC : C ≤ 30) (hS : Sc ≤ 6) (hp : rFr C Sc S F g) : rFr C Sc S F g' := by
  obtain ⟨h1, h2, h3⟩ := hp
  exact ⟨h.st hF hC hS h1, by rw [h.2.1 19 (by omega) (by omega) F hF]; exact h2, h3⟩
theorem jun_congr {g g' : Nat → Nat → Int32} {u : Nat} {S : jS} (h4 : g' 4 = g 4) (h5 : g' 5 = g 5) (h6 : g' 6 = g 6) : ∀ m, jun g' u S m = jun g u S m
  | 0 => rfl
  | m + 1 => by unfold jun; rw [jun_congr h4 h5 h6 m, h4, h5, h6]
theorem RR_congr {f f' : Nat → Int32} {g g' : Nat → Nat → Int32} {p p' : Nat → Nat → Int32} {pa pa' : Nat → Nat → Nat → Int32} {s s' : Nat → Nat → Int32} {sa sa' : Nat → Nat → Nat → Int32} {sw sw' : Bool} {mf mf' : Nat → Int32} {mg mg' mb mb' : Nat → Nat → Int32}
    (h : RR f g p pa s sa sw mf mg mb) (hf : ∀ k, k < 2 ∨ k = 7 ∨ k = 8 ∨ (14 ≤ k ∧ k ≤ 21) ∨ (23 ≤ k ∧ k ≤ 25) → f' k = f k) (hg : ∀ k, k < 2 ∨ (4 ≤ k ∧ k ≤ 10) → g' k = g k) (hp : p' (jq sw') = p (jq sw)) (hpa : pa' (jq sw') = pa (jq sw))
    (hs : s' 0 = s 0 ∧ s' 1 = s 1) (hsa : sa' 0 = sa 0 ∧ sa' 1 = sa 1) (hmf : ∀ k, k = 1 ∨ k = 11 ∨ k = 12 ∨ (16 ≤ k ∧ k ≤ 20) ∨ k = 23 ∨ k = 24 → mf' k = mf k) (hmg : jq1 mg mg') (hmb : mb' 0 = mb 0) : RR f' g' p' pa' s' sa' sw' mf' mg' mb' := by
  obtain ⟨C, Sc, h1, h2, h3, h4, h5, h6, h7, h8, h9, h10, h11⟩ := h
  have hC : C ≤ 30 := h1.1.2.1
  have hS6 : Sc ≤ 6 := h1.1.2.2.2.2.2.1
  refine ⟨C, Sc, ?_, ?_, ?_, ?_, ?_, ?_, ?_, ?_, ?_, ?_, ?_⟩
  · rw [hp, hpa]; exact rPl_congr h1 (fun k hk => hmg.1 k (Or.inl hk))
  · rw [hp]; exact h2
  · unfold jneu at h3 ⊢
    rw [hf 14 (by omega), hf 15 (by omega), hf 16 (by omega), hf 17 (by omega), hf 18 (by omega), hf 19 (by omega), hf 20 (by omega), hf 21 (by omega)]; exact h3
  · unfold mneu at h4 ⊢
    rw [hmf 16 (by omega), hmf 19 (by omega), hmf 20 (by omega)]; exact h4
  · rw [hs.1, hsa.1]; exact hmg.fr (by omega) hC hS6 h5
  · unfold rIm at h6 ⊢
    rw [hf 1 (by omega), hmf 17 (by omega), hs.2, hsa.2]
    exact ⟨h6.1, h6.2.1, fun hn => hmg.fr (by omega) hC hS6 (h6.2.2 hn)⟩
  · obtain ⟨u, u1, u2, u3, u4, u5⟩ := h7
    refine ⟨u, u1, by rw [hf 23 (by omega)]; exact u2, by rw [hmf 18 (by omega)]; exact u3, ?_, ?_⟩
    · intro m hm
      rw [hs.1, hsa.1, jun_congr (hg 4 (by omega)) (hg 5 (by omega)) (hg 6 (by omega))]
      exact hmg.fr (by omega) hC hS6 (u4 m hm)
    · rw [hg 5 (by omega)]; exact u5
  · unfold rNo at h8 ⊢
    rw [hf 24 (by omega), hf 25 (by omega), hmf 23 (by omega), hmf 24 (by omega), hg 7 (by omega), hg 8 (by omega), hg 9 (by omega), hg 10 (by omega), hmg.1 30 (by omega), hmg.1 31 (by omega), hmg.1 32 (by omega), hmg.1 33 (by omega), hmb]
    exact h8
  · unfold rTa at h9 ⊢
    rw [hf 0 (by omega), hmf 1 (by omega), hg 0 (by omega), hmg.1 0 (by omega)]; exact h9
  · rw [hf 7 (by omega), hf 8 (by omega), hmf 11 (by omega), hmf 12 (by omega)]; exact h10
  · unfold rWd at h11 ⊢
    rw [hg 1 (by omega), hp]; exact h11
theorem rTw_neu {f mf : Nat → Int32} {Sc : Nat} (h1 : jneu f) (h2 : mneu mf) (hS : Sc ≤ 6) : rTw f mf Sc := by
  obtain ⟨-, -, a16, a17, a18, a19, a20, -⟩ := h1
  obtain ⟨-, b19, b20⟩ := h2
  refine ⟨?_, ?_, ?_, ?_, ?_⟩
  · rw [a16, b19]; decide
  · intro i hi
    rw [a17, b19]
    constructor
    · intro _ hx; exact absurd hx.1 (by decide)
    · intro _; rw [jbit0 (by omega)]; exact b_0 i
  · rw [a18, b19]; decide
  · rw [a19, b19]; decide
  · rw [a20, b19]; decide
theorem wnd_neu {f mf w9 : Nat → Int32} {mg : Nat → Nat → Int32} {C Sc d : Nat} {q : Nat → Int32} {qa : Nat → Nat → Int32} (h1 : f 21 = 0) (h2 : mf 16 = -1) (hP : rPl q qa C Sc mg) (hd : d < 2147483648) : mwnd mf mg (Int32.ofNat d) = cwnd f w9 q qa (Int32.ofNat d) := by
  unfold mwnd cwnd jwnd
  rw [if_pos h2, if_pos h1, if_neg (jnonneg hd), hP.2.1.2.2.2.2.2.2.1]
  by_cases hlt : Int32.ofNat d < q 5
  · rw [if_pos hlt, if_pos hlt, jclamp hd]
    apply hP.2.2.2.2.1
    obtain ⟨Wn, hW, hWn⟩ := hP.1.2.2.2.2.2.2.1
    rw [hW] at hlt ⊢
    rw [jltn hd (by omega)] at hlt
    rw [jclamp (by omega)]; exact hlt
  · rw [if_neg hlt, if_neg hlt]
