-- THE START IN THE MACHINE: the script, the texts
def jtm2 : Nat → Term
  | 0 => .string "CrowRota$Tokens" 18
  | _ => .string "CrowRotaModel" 188
def jelc (i j : Nat) : Jvm.Cond := Cond.eq (.elem (.field (jtm2 i) "java/lang/String" "value" "[B") (.int (Int32.ofNat j))) (.int ((jbyt2.getD i []).getD j 0))
set_option maxRecDepth 100000 in
theorem jel0 : ((flatC (Jvm.Cond.and given_1 narrow_1)).drop 41).take 105 = (List.range 105).map (jelc 0) := by decide +kernel
set_option maxRecDepth 100000 in
theorem jel1 : ((flatC (Jvm.Cond.and given_1 narrow_1)).drop 185).take 111 = (List.range 111).map (jelc 1) := by decide +kernel
theorem jelm {i j p n : Nat} (h : ((flatC (Jvm.Cond.and given_1 narrow_1)).drop p).take n = (List.range n).map (jelc i)) (hj : j < n) : jelc i j ∈ flatC (Jvm.Cond.and given_1 narrow_1) := by
  refine List.mem_of_mem_drop (List.mem_of_mem_take (i := n) (l := (flatC (Jvm.Cond.and given_1 narrow_1)).drop p) ?_)
  rw [h]
  exact List.mem_map.mpr ⟨j, List.mem_range.mpr hj, rfl⟩
theorem jel2 : ∀ i, i < 2 → ∀ j, j < jlen2.getD i 0 → jelc i j ∈ flatC (Jvm.Cond.and given_1 narrow_1) := by
  intro i hi j hj
  match i, hi with
  | 0, _ => exact jelm jel0 (show j < 105 from hj)
  | 1, _ => exact jelm jel1 (show j < 111 from hj)
  | n + 2, h => omega
set_option maxRecDepth 100000 in
theorem jFr_start {b L : Nat} {xs : Nat → Int32} {s : State} (hts : ∀ w ∈ lw_tbl, w.before #[Value.ref b] s = true) (hX : va_X b L xs s s.heap) (hbl : b < s.heap.size) (hgv : (Jvm.Cond.and given_1 narrow_1).before #[Value.ref b] s = true) : ∃ EX adV : Nat → Nat, EX 0 = b ∧ jFr s.heap.size L xs EX adV s s.heap := by
  have hs := flat_of_before _ hgv
  have hA : ∀ a : Nat, a < s.heap.size → ¬ (fun q : Nat => s.heap.size ≤ q) a := fun a h => Nat.not_le.mpr h
  obtain ⟨adK, adV, hS, hE⟩ := vk_Sof (args := #[Value.ref b]) (s := s) (N := 2) (tm := jtm2) (len := jlen2) (byt := jbyt2) (A := fun q => s.heap.size ≤ q)
    (fun i hi => by have := jlen2_lt i hi; omega)
    (fun i hi => by
      match i, hi with
      | 0, _ => exact hs _ (by decide +kernel)
      | 1, _ => exact hs _ (by decide +kernel)
      | n + 2, h => omega)
    (fun i hi => by
      match i, hi with
      | 0, _ => exact hs _ (by decide +kernel)
      | 1, _ => exact hs _ (by decide +kernel)
      | n + 2, h => omega)
    (fun i hi => by
      match i, hi with
      | 0, _ => exact hs _ (by decide +kernel)
      | 1, _ => exact hs _ (by decide +kernel)
      | n + 2, h => omega)
    (fun i hi => by
      match i, hi with
      | 0, _ => exact hs _ (by decide +kernel)
      | 1, _ => exact hs _ (by decide +kernel)
      | n + 2, h => omega)
    (fun i hi j hj => hs _ (jel2 i hi j hj))
    (fun i j hi hj hij => by
      match i, hi, j, hj with
      | 0, _, 0, _ => exact absurd rfl hij
      | 0, _, 1, _ => exact Or.inl (hs _ (by decide +kernel))
      | 1, _, 0, _ => exact Or.inr (hs _ (by decide +kernel))
      | 1, _, 1, _ => exact absurd rfl hij
      | n + 2, h, _, _ => omega
      | _, _, n + 2, h => omega)
    hA
  refine ⟨fun k => match k with
    | 0 => b
    | i + 1 => adK i, adV, rfl, hX, hbl, va_AO.of (hts _ (jT 164 (by decide +kernel))), fun x hx => va_Nw.of rfl (hts _ (jln_ok x hx)), vk_R.of (hts _ (jT 46 (by decide +kernel))) (hE 0 (by omega)), vk_R.of (hts _ (jT 1436 (by decide +kernel))) (hE 1 (by omega)), hS, ?_, ?_⟩
  · exact va_Zof (hts _ (jT 56 (by decide +kernel))) (hts _ (jT 4 (by decide +kernel))) (va_eqt (hs _ (by decide +kernel))) hA
  · exact va_Zqof (hts _ (jT 72 (by decide +kernel))) (hts _ (jT 6 (by decide +kernel))) (hs _ (by decide +kernel)) hA
