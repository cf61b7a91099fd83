-- THE START: the words packed
abbrev TkH (c0 c1 c3 : jE) (g : Nat → Int32) : List jE := [c0, c1, .inr (8, [.ref 3, .ref 4, .int 0, .int 0, .int 0, .int 0, .int 0]), c3, .inl (0, 22, .inl g)]
abbrev TkL (i w l : Nat) (pk : Int32) : jL := ([some (.ref 2), some (.int (Int32.ofNat w)), some (.int (Int32.ofNat l)), some (.int pk), some (.int (Int32.ofNat i))], [])
def tkS (i : Nat) (T : Nat × Nat × Int32 × (Nat → Int32)) : Nat × Nat × Int32 × (Nat → Int32) := if i < 105 ∧ ¬ jtxt 1 i = 32 then (T.1, T.2.1 + 1, jpk T.2.2.1 T.2.1 (jtxt 1 i), T.2.2.2) else (T.1 + 1, 0, 0, jup T.2.2.2 T.1 T.2.2.1)
def jtkT : Nat → Nat × Nat × Int32 × (Nat → Int32)
  | 0 => (0, 0, 0, fun _ => 0)
  | k + 1 => tkS k (jtkT k)
def jtkg : Nat → Int32 := (jtkT 106).2.2.2
theorem jtxt1_lt : ∀ i, i < 105 → jtxt 1 i < 256 := by decide +kernel
set_option maxRecDepth 20000 in
set_option maxHeartbeats 2000000 in
theorem Z_tok1 {D i w l : Nat} {pk : Int32} {g : Nat → Int32} {c0 c1 c3 : jE} {z : Nat × Nat × Nat × (Nat → Int32)} (hi : i ≤ 105) (hw : w < 22) (hl : l < 1000) :
    jev D 85 18 (TkL i w l pk) [] (TkH c0 c1 c3 g, z) = jev D 85 18 (TkL (i + 1) (tkS i (w, l, pk, g)).1 (tkS i (w, l, pk, g)).2.1 (tkS i (w, l, pk, g)).2.2.1) [] (TkH c0 c1 c3 (tkS i (w, l, pk, g)).2.2.2, z) := by
  have h43 : jev D 85 43 (TkL i w l pk) [] (TkH c0 c1 c3 g, z) = jev D 85 18 (TkL (i + 1) (w + 1) 0 0) [] (TkH c0 c1 c3 (jup g w pk), z) := by
    refine (jev_blk 4 (pc' := 47) (L' := TkL i w l pk) (S' := [.int pk, .int (Int32.ofNat w), .ref 4]) (h' := (TkH c0 c1 c3 g, z)) rfl).trans ?_
    refine (jev_grd (q := jout (Int32.ofNat w) 22) (pc' := 48) (L' := TkL i w l pk) (S' := []) (h' := (TkH c0 c1 c3 (jup g (Int32.ofNat w).toNatClampNeg pk), z)) rfl).trans ?_
    rw [if_neg (jout_n hw (by omega)), jclamp (by omega)]
    refine (jev_blk 7 (pc' := 18) (L' := ([some (.ref 2), some (.int (Int32.ofNat w + 1)), some (.int 0), some (.int 0), some (.int (Int32.ofNat i + 1))], [])) (S' := []) (h' := (TkH c0 c1 c3 (jup g w pk), z)) rfl).trans ?_
    rw [jsucc, jsucc]
    rfl
  refine (jev_blk 2 (pc' := 20) (L' := TkL i w l pk) (S' := [.retAddr 1, .int (Int32.ofNat i)]) (h' := (TkH c0 c1 c3 g, z)) rfl).trans ?_
  refine (jev_prim (nx := 21) (rest := [.int (Int32.ofNat i)]) (r := some (.int 105)) (h' := (TkH c0 c1 c3 g, z)) rfl rfl).trans ?_
  refine (jev_blk 1 (pc' := if 105 < Int32.ofNat i then 55 else 22) (L' := TkL i w l pk) (S' := []) (h' := (TkH c0 c1 c3 g, z)) rfl).trans ?_
  rw [if_neg (show ¬ 105 < Int32.ofNat i from jlt_n (a := 105) (by omega) (by omega))]
  refine (jev_blk 3 (pc' := if Int32.ofNat w < 22 then 25 else 55) (L' := TkL i w l pk) (S' := []) (h' := (TkH c0 c1 c3 g, z)) rfl).trans ?_
  rw [if_pos (show Int32.ofNat w < 22 from jlt_t (b := 22) hw (by omega))]
  refine (jev_blk 2 (pc' := 27) (L' := TkL i w l pk) (S' := [.retAddr 1, .int (Int32.ofNat i)]) (h' := (TkH c0 c1 c3 g, z)) rfl).trans ?_
  refine (jev_prim (nx := 28) (rest := [.int (Int32.ofNat i)]) (r := some (.int 105)) (h' := (TkH c0 c1 c3 g, z)) rfl rfl).trans ?_
  refine (jev_blk 1 (pc' := if Int32.ofNat i < 105 then 29 else 43) (L' := TkL i w l pk) (S' := []) (h' := (TkH c0 c1 c3 g, z)) rfl).trans ?_
  by_cases h5 : i < 105
  · have ht := jtxt1_lt i h5
    rw [if_pos (show Int32.ofNat i < 105 from jlt_t (b := 105) h5 (by omega))]
    refine (jev_blk 2 (pc' := 31) (L' := TkL i w l pk) (S' := [.int (Int32.ofNat i), .retAddr 1]) (h' := (TkH c0 c1 c3 g, z)) rfl).trans ?_
    refine (jev_prig (nx := 32) (rest := []) (q := jout (Int32.ofNat i) 105) (r := some (.int (Int32.ofNat (jtxt 1 (Int32.ofNat i).toNatClampNeg)))) (h' := (TkH c0 c1 c3 g, z)) rfl rfl).trans ?_
    rw [if_neg (jout_n h5 (by omega)), jclamp (by omega)]
    refine (jev_blk 2 (pc' := if Int32.ofNat (jtxt 1 i) = 32 then 43 else 34) (L' := TkL i w l pk) (S' := []) (h' := (TkH c0 c1 c3 g, z)) rfl).trans ?_
    by_cases h32 : jtxt 1 i = 32
    · rw [if_pos (show Int32.ofNat (jtxt 1 i) = 32 by rw [h32]; rfl), h43]
      unfold tkS
      rw [if_neg (fun e => e.2 h32)]
    · rw [if_neg (fun e => h32 (by
        have e2 : (Int32.ofNat (jtxt 1 i)).toNatClampNeg = (32 : Int32).toNatClampNeg := by rw [e]
        rw [jclamp (by omega)] at e2
        exact e2))]
      refine (jev_blk 4 (pc' := 38) (L' := TkL i w l pk) (S' := [.int (Int32.ofNat i), .retAddr 1, .int (Int32.ofNat l), .int pk]) (h' := (TkH c0 c1 c3 g, z)) rfl).trans ?_
      refine (jev_prig (nx := 39) (rest := [.int (Int32.ofNat l), .int pk]) (q := jout (Int32.ofNat i) 105) (r := some (.int (Int32.ofNat (jtxt 1 (Int32.ofNat i).toNatClampNeg)))) (h' := (TkH c0 c1 c3 g, z)) rfl rfl).trans ?_
      rw [if_neg (jout_n h5 (by omega)), jclamp (by omega)]
      refine (jev_call (nx := 40) (rest := []) rfl (Z_pack (l := l) (c := jtxt 1 i) (pk := pk) (by omega))).trans ?_
      refine (jev_blk 5 (pc' := 18) (L' := ([some (.ref 2), some (.int (Int32.ofNat w)), some (.int (Int32.ofNat l + 1)), some (.int (jpk pk l (jtxt 1 i))), some (.int (Int32.ofNat i + 1))], [])) (S' := []) (h' := (TkH c0 c1 c3 g, z)) rfl).trans ?_
      rw [jsucc, jsucc]
      unfold tkS
      rw [if_pos (⟨h5, h32⟩ : i < 105 ∧ ¬ jtxt 1 i = 32)]
  · rw [if_neg (show ¬ Int32.ofNat i < 105 from jlt_n (b := 105) (by omega) (by omega)), h43]
    unfold tkS
    rw [if_neg (fun e => h5 e.1)]
theorem jtkT_ok : ∀ k, k < 106 → (jtkT k).1 < 22 ∧ (jtkT k).2.1 < 1000 := by decide +kernel
theorem jtkT_end : (jtkT 106).1 < 1000 ∧ (jtkT 106).2.1 < 1000 := by decide +kernel
theorem jtkg_ok : ∀ w, w < 22 → jtkg w = jpkw (jwrds.getD w []) := by decide +kernel
set_option maxRecDepth 20000 in
theorem Z_tok {D : Nat} {c0 c1 c3 : jE} {z : Nat × Nat × Nat × (Nat → Int32)} : ∃ L, jev D 85 18 (TkL 0 0 0 0) [] (TkH c0 c1 c3 (fun _ => 0), z) = jev D 85 55 L [] (TkH c0 c1 c3 jtkg, z) := by
  have key : ∀ k, k ≤ 106 → jev D 85 18 (TkL 0 0 0 0) [] (TkH c0 c1 c3 (fun _ => 0), z) = jev D 85 18 (TkL k (jtkT k).1 (jtkT k).2.1 (jtkT k).2.2.1) [] (TkH c0 c1 c3 (jtkT k).2.2.2, z) := by
    intro k
    induction k with
    | zero => intro _; rfl
    | succ k ih =>
      intro hk
      obtain ⟨h1, h2⟩ := jtkT_ok k (by omega)
      rw [ih (by omega), Z_tok1 (by omega) h1 h2]
      rfl
  refine ⟨TkL 106 (jtkT 106).1 (jtkT 106).2.1 (jtkT 106).2.2.1, ?_⟩
  rw [key 106 (Nat.le_refl _)]
  show _ = jev D 85 55 (TkL 106 (jtkT 106).1 (jtkT 106).2.1 (jtkT 106).2.2.1) [] (TkH c0 c1 c3 (jtkT 106).2.2.2, z)
  generalize jtkT 106 = T
  refine (jev_blk 2 (pc' := 20) (L' := TkL 106 T.1 T.2.1 T.2.2.1) (S' := [.retAddr 1, .int (Int32.ofNat 106)]) (h' := (TkH c0 c1 c3 T.2.2.2, z)) rfl).trans ?_
  refine (jev_prim (nx := 21) (rest := [.int (Int32.ofNat 106)]) (r := some (.int 105)) (h' := (TkH c0 c1 c3 T.2.2.2, z)) rfl rfl).trans ?_
  refine (jev_blk 1 (pc' := if 105 < Int32.ofNat 106 then 55 else 22) (L' := TkL 106 T.1 T.2.1 T.2.2.1) (S' := []) (h' := (TkH c0 c1 c3 T.2.2.2, z)) rfl).trans ?_
  rw [if_pos (by decide)]
