-- THE METHOD THAT THROWS: its run in the machine up to its ends
def jM105 : jM := (jc_105, 3, 0, 3, 6, 11, 1)
theorem jM105_ok : jnth jmeth 105 = some jM105 := rfl
/-- the entries that a run may stand at -/
def jlive (i : Nat) : Bool := !(Nat.ble 6 i && Nat.ble i 9) && !(Nat.ble 38 i && Nat.ble i 41)
def jp105 (i : Nat) (e : jI) : Bool :=
  (Nat.beq (jkind e) 1 && ((decide (e.1 = .ireturn) && decide (decode prog_1_method_7_code (jpc jy_105.2.2.2.2.2 i) = .ok (.ireturn, 1))) || (decide (e.1 = .athrow) && ((Nat.beq i 5 && Nat.beq e.2.2.1 1) || (Nat.beq i 37 && Nat.beq e.2.2.1 2))))) ||
  ((Nat.beq (jkind e) 0 && (jokb 10 false prog_1_method_7_code jy_105.2.2.2.2.2 i e && jlive e.2.1 && jlive e.2.2.1 && e.2.2.2.2.2.all (fun q => jlive q.2))) ||
  (!Nat.beq (jkind e) 0 && !Nat.beq (jkind e) 1 && (jokb 10 false prog_1_method_7_code jy_105.2.2.2.2.2 i e && jlive e.2.1 && Nat.blt e.2.2.1 1000)))
set_option maxRecDepth 100000 in
theorem jok105a : (List.range 48).all (fun i => !jlive i || (match jfet jM105 i with
    | some e => jp105 i e
    | none => true)) = true := by decide +kernel
theorem jok105 {i : Nat} {e : jI} (h : jfet jM105 i = some e) (hl : jlive i = true) : jp105 i e = true := by
  have hi : i < 48 := by
    unfold jfet at h
    split at h
    · rename_i c hc
      rw [jnth_eq] at hc
      have h1 : i / 16 < jM105.1.length := (List.getElem?_eq_some_iff.mp hc).1
      have h2 : jM105.1.length = 3 := by decide
      omega
    · cases h
  have h0 := List.all_eq_true.mp jok105a i (List.mem_range.mpr hi)
  rw [h, hl] at h0
  exact h0
theorem jc1_P {P : Nat → Prop} {c : Jvm.ClassFile.Cond} {x : Int32} {a nx : Nat} (h1 : P a) (h2 : P nx) : P (jc1 c x a nx) := by
  cases c <;> (dsimp only [jc1]; split <;> assumption)
theorem jc2_P {P : Nat → Prop} {c : Jvm.ClassFile.Cond} {x y : Int32} {a nx : Nat} (h1 : P a) (h2 : P nx) : P (jc2 c x y a nx) := by
  cases c <;> (dsimp only [jc2]; split <;> assumption)
theorem jsw_P {P : Nat → Prop} {d : Nat} {x : Int32} (hd : P d) : ∀ sw : List (Int32 × Nat), (∀ q ∈ sw, P q.2) → P (jsw sw d x)
  | [], _ => hd
  | (k, t) :: r, h => by
    unfold jsw
    split
    · exact h (k, t) List.mem_cons_self
    · exact jsw_P hd r (fun q hq => h q (List.mem_cons_of_mem _ hq))
set_option maxHeartbeats 4000000 in
theorem jstep_nx {P : Nat → Prop} {e : jI} {L L' : jL} {S S' : List Value} {h h' : jH} {pc' : Nat} (hst : jstep e L S h = some (pc', L', S', h')) (hn : P e.2.1) (ha : P e.2.2.1) (hw : ∀ q ∈ e.2.2.2.2.2, P q.2) : P pc' := by
  obtain ⟨ins, nx, a, b, v, sw⟩ := e
  dsimp only at hn ha hw
  unfold jstep at hst
  cases ins <;> dsimp only at hst <;> (try simp only [jcond_ite] at hst) <;>
    (repeat' (first | contradiction | split at hst)) <;>
    first
      | contradiction
      | (obtain ⟨e0, -, -, -⟩ := jsome4 hst; rw [← e0]; first | exact hn | exact ha | exact jc1_P ha hn | exact jc2_P ha hn | exact jsw_P ha _ hw)
section JCB
variable {l : Launch} {D : va_G} {cA : Nat → ClassId} {B : Nat} {EX adV : Nat → Nat} {Ln : Nat} {xs : Nat → Int32}
set_option maxRecDepth 4000 in
theorem jcellbody (hPs : jPstr l D cA B EX adV Ln xs) : ∀ n {p : Program} {en : Env} {R : Room} {s : State} {m : MethodId} {args : Array Value} {below : List Frame} {meth : Method} {c : Code} {Q : State → Prop} {nc0 ns0 : Nat} {Dp pc : Nat} {L : jL} {S : List Value} {h : jH} {x : jO × jH},
    jrun n Dp 105 pc L S h = some x → jlive pc = true → jC p s args m meth c prog_1_method_7_code 3 10 false D cA B EX adV Ln xs nc0 → (6 + Dp + 10 ≤ R.frames ∧ 40 * (6 + Dp) + 400 ≤ R.locals) → (x.2.2.1 ≤ nc0 + R.cells ∧ x.2.2.2.1 ≤ ns0 + R.slots) →
    ∀ {H : Heap} {locs : List Loc} {ls : Array Slot} {cells slots : Nat}, va_P D jcls (jws cA B EX h.1) H → va_S (fun q => B ≤ q) s.heap H locs → jLok B EX 3 L ls → cells + nc0 = h.2.1 → slots + ns0 = h.2.2.1 → h.2.2.2 = (Ln, xs) →
    (∀ {pc' : Nat} {e' : jI} {S' : List Value} {h' : jH} {H' : Heap} {locs' : List Loc} {ls' : Array Slot} {cells' slots' : Nat}, jfet jM105 pc' = some e' → jlive pc' = true → jret 1 e' S' h' = some x → va_P D jcls (jws cA B EX h'.1) H' → va_S (fun q => B ≤ q) s.heap H' locs' → cells' + nc0 = h'.2.1 → slots' + ns0 = h'.2.2.1 → h'.2.2.2 = (Ln, xs) → ls'.size = 3 → W p l en R s m args below meth c H' locs' cells' slots' Q (F0 m (jpc jy_105.2.2.2.2.2 pc') ls' (S'.map (jcv B EX)))) →
    W p l en R s m args below meth c H locs cells slots Q (F0 m (jpc jy_105.2.2.2.2.2 pc) ls (S.map (jcv B EX))) := by
  intro n
  induction n with
  | zero =>
    intro p en R s m args below meth c Q nc0 ns0 Dp pc L S h x hrun
    simp [jrun] at hrun
  | succ n IH =>
    intro p en R s m args below meth c Q nc0 ns0 Dp pc L S h x hrun hlv C0 hR hRs H locs ls cells slots hP hS hL hc hs hz hend
    have hrun : jgo (jrun n) Dp 105 pc L S h = some x := hrun
    unfold jgo at hrun
    rw [jM105_ok] at hrun
    dsimp only at hrun
    split at hrun
    · cases hrun
    · rename_i e he
      have hp := jok105 he hlv
      unfold jp105 at hp
      rw [Bool.or_eq_true, Bool.or_eq_true] at hp
      split at hrun
      · rename_i hk
        have hp0 : (jokb 10 false prog_1_method_7_code jy_105.2.2.2.2.2 pc e && jlive e.2.1 && jlive e.2.2.1 && e.2.2.2.2.2.all (fun q => jlive q.2)) = true := by
          rcases hp with hp | hp | hp
          · rw [Bool.and_eq_true] at hp
            have h9 := Nat.eq_of_beq_eq_true hp.1
            rw [hk] at h9
            cases h9
          · rw [Bool.and_eq_true] at hp; exact hp.2
          · rw [hk] at hp
            simp only [Bool.and_eq_true, Bool.not_eq_true'] at hp
            exact absurd hp.1.1 (by decide)
        simp only [Bool.and_eq_true] at hp0
        obtain ⟨⟨⟨hob, hl1⟩, hl2⟩, hl3⟩ := hp0
        split at hrun
        · cases hrun
        · rename_i pc1 L1 S1 h1 hst
          have hle := jrun_le hrun
          have hlv1 : jlive pc1 = true := jstep_nx (P := fun i => jlive i = true) hst hl1 hl2 (fun q hq => List.all_eq_true.mp hl3 q hq)
          refine jstep_ok C0 hob hP hS hL hc hs hz ⟨Nat.le_trans hle.1 hRs.1, Nat.le_trans hle.2.1 hRs.2⟩ hst (fun H' locs' ls' cells' slots' hP' hS' hL' hc' hs' hz' => ?_)
          exact IH hrun hlv1 C0 hR hRs hP' hS' hL' hc' hs' hz' hend
      · exact hend he hlv hrun hP hS hc hs hz hL.1.1
      · rename_i k0 hk0 hk1
        have hp0 : (jokb 10 false prog_1_method_7_code jy_105.2.2.2.2.2 pc e && jlive e.2.1 && Nat.blt e.2.2.1 1000) = true := by
          rcases hp with hp | hp | hp
          · rw [Bool.and_eq_true] at hp
            exact absurd (Nat.eq_of_beq_eq_true hp.1) hk1
          · rw [Bool.and_eq_true] at hp
            exact absurd (Nat.eq_of_beq_eq_true hp.1) hk0
          · rw [Bool.and_eq_true] at hp; exact hp.2
        simp only [Bool.and_eq_true] at hp0
        obtain ⟨⟨hob, hl1⟩, ha⟩ := hp0
        replace ha : e.2.2.1 < 1000 := Nat.le_of_ble_eq_true ha
        obtain ⟨hg, hrun⟩ := jbo hrun
        rw [Bool.and_eq_true] at hg
        have hrest : jcats (S.drop e.2.2.2.1) ≤ 8 := Nat.le_of_ble_eq_true hg.2
        split at hrun
        · cases hrun
        · rename_i r h1 hi
          have hle := jrun_le hrun
          obtain ⟨k, e1, hac, hal, hd, hins⟩ := jinv_ok hob hk0 hk1
          have hgo : jRule p l en R s m args below meth c Q D cA B EX Ln xs nc0 ns0 (jpc jy_105.2.2.2.2.2 pc) ls (S.take e.2.2.2.1).reverse (S.drop e.2.2.2.1) h r h1 := by
            refine jr_own (rk := 6) (jbody hPs jMo_ok jMc_ok n) jMo_ok jMc_ok C0 hL ha hac hal ?_ hd ?_ hR hrest hi (k := k)
            · rcases hins with ⟨-, h2, -⟩ | ⟨-, h2, -⟩ | ⟨-, h2, -⟩
              · exact h2
              · exact Or.inl h2
              · exact h2
            · rcases hins with ⟨h1, -, h3⟩ | ⟨h1, -, h3⟩ | ⟨h1, -, h3⟩
              · exact Or.inl ⟨h1, by omega⟩
              · exact Or.inr (Or.inl ⟨h1, by omega⟩)
              · exact Or.inr (Or.inr ⟨h1, by omega⟩)
          have hS2 : (S.take e.2.2.2.1).reverse.reverse ++ S.drop e.2.2.2.1 = S := by rw [List.reverse_reverse, List.take_append_drop]
          have h9 := hgo hP hS hc hs hz ⟨Nat.le_trans hle.1 hRs.1, Nat.le_trans hle.2.1 hRs.2⟩ (fun H' locs' cells' slots' hP' hS' hc' hs' hz' => by
            rw [← e1]
            exact IH hrun hl1 C0 hR hRs hP' hS' hL hc' hs' hz' hend)
          rw [hS2] at h9
          exact h9
end JCB
