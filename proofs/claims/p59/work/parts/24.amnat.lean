/-! ===== the library's own steps ===== -/
section AMN
variable {p : Program} {l : Launch} {e : Env} {R : Room} {s : State} {m : MethodId} {args : Array Value} {below : List Frame} {meth : Method} {c : Code} {Q : State → Prop}
variable {P : am_Pg} {B : am_Nm} {D : va_G} {Z : am_Z} {mi : Nat} {k0 n0 : Nat} {pc pc' len : Nat} {lv lv' : am_L} {st st' : List Value} {M M' : am_M}
theorem am_t_n0 {i : Nat} (G : am_Gd P B) (hnt : am_nat P mi i = some 0) (hC : am_X P B D Z p R s m args meth c mi) (hdg : decode (am_cc B mi) pc = .ok (.invokespecial i, 3)) (h : am_nt P 0 pc lv st M = some (pc', lv', st', M'))
    (hV : am_V p l e R s m args below meth c Q P B D Z mi k0 n0 pc' lv' st' M') : am_V p l e R s m args below meth c Q P B D Z mi k0 n0 pc lv st M := by
  obtain ⟨hx, hb, hml, hr, hlk, hown, hin0, hts, hNw, hK, hKc, hbs, hrF, hrL⟩ := hC
  obtain ⟨-, -, -, -, -, -, -, -, -, Ga, -⟩ := G
  obtain ⟨g1, g2, w1, w2, w3⟩ := Ga _ _ _ hnt
  replace h : am_n0 pc lv st M = some (pc', lv', st', M') := h
  unfold am_n0 at h
  split at h
  · rename_i a r
    by_cases hc : am_sum r ≤ 8
    · rw [if_pos hc] at h
      cases h
      intro H locs ls hR hS hl hk hn
      have K := hV H locs ls hR hS hl hk hn
      exact W.objInit hx hb hown (hts _ w1) (hts _ w2) (hts _ w3) rfl (by rw [hml]; exact hl.1) rfl hdg (Nat.le_trans g1 hrF) (by rw [am_sumT]; show 2 * 0 + am_sum st' + 12 ≤ R.locals; omega) K
    · rw [if_neg hc] at h; cases h
  · cases h
theorem am_t_n3 {i : Nat} (G : am_Gd P B) (hnt : am_nat P mi i = some 3) (hC : am_X P B D Z p R s m args meth c mi) (hdg : decode (am_cc B mi) pc = .ok (.invokestatic i, 3)) (h : am_nt P 3 pc lv st M = some (pc', lv', st', M'))
    (hV : am_V p l e R s m args below meth c Q P B D Z mi k0 n0 pc' lv' st' M') : am_V p l e R s m args below meth c Q P B D Z mi k0 n0 pc lv st M := by
  obtain ⟨hx, hb, hml, hr, hlk, hown, hin0, hts, hNw, hK, hKc, hbs, hrF, hrL⟩ := hC
  obtain ⟨-, -, -, -, -, -, -, -, -, Ga, -⟩ := G
  obtain ⟨g1, g2, w1, w2, w3, w4⟩ := Ga _ _ _ hnt
  replace h : am_n3 pc lv st M = some (pc', lv', st', M') := h
  unfold am_n3 at h
  split at h
  · rename_i b r
    by_cases hc : am_sum r ≤ 8
    · rw [if_pos hc] at h
      cases h
      intro H locs ls hR hS hl hk hn
      have K := hV H locs ls hR hS hl hk hn
      exact vn_d2l hx hb (hml.trans hl.1.symm) hown (hts _ w1) (hts _ w2) (hts _ w3) (hts _ w4) (Nat.le_trans g1 hrF) (by rw [am_sumT]; omega) hdg K
    · rw [if_neg hc] at h; cases h
  · cases h
theorem am_t_n4 {i : Nat} (G : am_Gd P B) (hnt : am_nat P mi i = some 4) (hC : am_X P B D Z p R s m args meth c mi) (hdg : decode (am_cc B mi) pc = .ok (.invokestatic i, 3)) (h : am_nt P 4 pc lv st M = some (pc', lv', st', M'))
    (hV : am_V p l e R s m args below meth c Q P B D Z mi k0 n0 pc' lv' st' M') : am_V p l e R s m args below meth c Q P B D Z mi k0 n0 pc lv st M := by
  obtain ⟨hx, hb, hml, hr, hlk, hown, hin0, hts, hNw, hK, hKc, hbs, hrF, hrL⟩ := hC
  obtain ⟨-, -, -, -, -, -, -, -, -, Ga, -⟩ := G
  obtain ⟨g1, g2, w1, w2, w3, w4⟩ := Ga _ _ _ hnt
  replace h : am_n4 pc lv st M = some (pc', lv', st', M') := h
  unfold am_n4 at h
  split at h
  · rename_i b r
    by_cases hc : am_sum r ≤ 8
    · rw [if_pos hc] at h
      cases h
      intro H locs ls hR hS hl hk hn
      have K := hV H locs ls hR hS hl hk hn
      exact vn_f2i hx hb (hml.trans hl.1.symm) hown (hts _ w1) (hts _ w2) (hts _ w3) (hts _ w4) (Nat.le_trans g1 hrF) (by rw [am_sumT]; omega) hdg K
    · rw [if_neg hc] at h; cases h
  · cases h
theorem am_nn {z : Int32} (hz : ¬ z < 0) : z.toInt = (z.toNatClampNeg : Int) := by
  have hz0 : (0 : Int) ≤ z.toInt := by
    have := Int32.not_lt.mp hz
    simpa using Int32.le_iff_toInt_le.mp this
  show z.toInt = ((z.toInt.toNat : Nat) : Int)
  omega
theorem am_t_n1 {i : Nat} (G : am_Gd P B) (hnt : am_nat P mi i = some 1) (hC : am_X P B D Z p R s m args meth c mi) (hdg : decode (am_cc B mi) pc = .ok (.invokestatic i, 3)) (h : am_nt P 1 pc lv st M = some (pc', lv', st', M'))
    (hV : am_V p l e R s m args below meth c Q P B D Z mi k0 n0 pc' lv' st' M') : am_V p l e R s m args below meth c Q P B D Z mi k0 n0 pc lv st M := by
  obtain ⟨hx, hb, hml, hr, hlk, hown, hin0, hts, hNw, hK, hKc, hbs, hrF, hrL⟩ := hC
  obtain ⟨-, -, -, -, -, -, G7, -, -, Ga, -⟩ := G
  obtain ⟨g1, g2, w1, w2, w3, w4⟩ := Ga _ _ _ hnt
  replace h : am_n1 pc lv st M = some (pc', lv', st', M') := h
  unfold am_n1 at h
  split at h
  · rename_i n dp b sp a r
    split at h
    · rename_i nA f nB g hoA hoB
      generalize hbq : (decide (am_sum r ≤ 8) && (!(decide (sp < 0)) && (!(decide (dp < 0)) && (!(decide (n < 0)) && (decide (sp.toNatClampNeg + n.toNatClampNeg ≤ nA) && decide (dp.toNatClampNeg + n.toNatClampNeg ≤ nB)))))) = bq at h
      cases bq with
      | false => cases h
      | true =>
        cases h
        simp only [Bool.and_eq_true, Bool.not_eq_true', decide_eq_false_iff_not, decide_eq_true_eq] at hbq
        obtain ⟨hsm, h1, h2, h3, h4, h5⟩ := hbq
        intro H locs ls hR hS hl hk hn T hT X
        have hcA : H[Z.2.2 + a]? = some (vp_cell (Z.1 0) (nA, .inl f)) := hR.1 a _ (am_ws_get hoA)
        have hcB : H[Z.2.2 + b]? = some (vp_cell (Z.1 0) (nB, .inl g)) := hR.1 b _ (am_ws_get hoB)
        obtain ⟨-, kA, hkA, cmA, hkkA⟩ := (hK.2 0 _ (am_tyg G7.2.2.1)).1 nA (fun j => .int (f j))
        have hnw : nativeFrameWords "java/lang/System" "arraycopy" 5 ≤ 20 := by decide
        obtain ⟨vm', X', step⟩ := X.arraycopy hx hown (hts _ w1) (hts _ w2) (hts _ w3) (hts _ w4) (src := Z.2.2 + a) (dst := Z.2.2 + b) (cs := vp_cell (Z.1 0) (nA, .inl f)) (cd := vp_cell (Z.1 0) (nB, .inl g)) (srcPos := sp) (destPos := dp) (n := n) (by rw [hT]; exact hcA) (by rw [hT]; exact hcB)
          (fun _ h => by cases h) (fun _ h => by cases h) (fun h => by cases h) (fun h => by cases h) hkA hkA hkkA hkkA rfl h1 h2 h3
          (by rw [am_nn h1, am_nn h3]; show ¬ _ > ((arrV (Z.1 0) nA (fun j => .int (f j))).slots.size : Int); rw [arrV_size]; omega)
          (by rw [am_nn h2, am_nn h3]; show ¬ _ > ((arrV (Z.1 0) nB (fun j => .int (g j))).slots.size : Int); rw [arrV_size]; omega)
          (fun vm₁ _ i hi => by
            have e : (vp_cell (Z.1 0) (nA, .inl f)).slots.getD (sp.toNatClampNeg + i) .null = .int (f (sp.toNatClampNeg + i)) := by
              show (arrV (Z.1 0) nA (fun j => .int (f j))).slots.getD _ _ = _
              rw [Array.getD_eq_getD_getElem?, arrV_read _ _ (by omega)]
              rfl
            refine ⟨?_, ?_⟩
            · rw [e]; rfl
            · rw [e]; exact trivial)
          (g := F0 m pc ls (.int n :: .int dp :: .ref (Z.2.2 + b) :: .int sp :: .ref (Z.2.2 + a) :: st'.map (am_tr Z.2.1 Z.2.2))) rfl (by rw [hml]; exact hl.1) (rest := st'.map (am_tr Z.2.1 Z.2.2)) rfl (by rw [hb]; exact hdg) (Nat.le_trans g1 hrF) (by rw [am_sumT]; show 2 * 0 + am_sum st' + _ ≤ R.locals; omega)
        have e1 : copied (vp_cell (Z.1 0) (nA, .inl f)) (vp_cell (Z.1 0) (nB, .inl g)) sp dp n = vp_cell (Z.1 0) (nB, .inl (va_cpy f g sp.toNatClampNeg dp.toNatClampNeg n.toNatClampNeg)) := va_copied (fun z => .int z) (Z.1 0) (Z.1 0) f g h4
        rw [e1] at X' step
        have hlB : Z.2.2 + b < H.size := (Array.getElem?_eq_some_iff.mp hcB).1
        generalize hH1 : H.setIfInBounds (Z.2.2 + b) (vp_cell (Z.1 0) (nB, .inl (va_cpy f g sp.toNatClampNeg dp.toNatClampNeg n.toNatClampNeg))) = H1
        have hheap : ((T.setVm vm').setCell (Z.2.2 + b) (vp_cell (Z.1 0) (nB, .inl (va_cpy f g sp.toNatClampNeg dp.toNatClampNeg n.toNatClampNeg)))).heap = H1 := by rw [← hH1, ← hT]; rfl
        have eb : H1[Z.2.2 + b]? = some (vp_cell (Z.1 0) (nB, .inl (va_cpy f g sp.toNatClampNeg dp.toNatClampNeg n.toNatClampNeg))) := by rw [← hH1]; simp [Array.getElem?_setIfInBounds, hlB]
        have oq : ∀ q : Nat, q ≠ Z.2.2 + b → H1[q]? = H[q]? := fun q hq => by rw [← hH1]; simp [Array.getElem?_setIfInBounds, Ne.symm hq]
        have z1 : H1.size = H.size := by rw [← hH1]; simp
        have hR' : am_R D (am_kl B) Z (M.1.set b (.inl (0, nB, .inl (va_cpy f g sp.toNatClampNeg dp.toNatClampNeg n.toNatClampNeg))), M.2) H1 := hR.set hoB eb z1 oq
        have hS' : va_S (am_A Z) s.heap H1 (locs ++ ((vp_cell (Z.1 0) (nA, .inl f)).stretch sp.toNatClampNeg n.toNatClampNeg).zipIdx.map fun q => ⟨Z.2.2 + b, dp.toNatClampNeg + q.2⟩) := by
          refine ⟨by rw [z1]; exact hS.1, fun q q1 q2 => ?_, fun q hq => ?_⟩
          · rw [oq q (fun e => q2 (by rw [e]; exact Nat.le_add_right _ _))]
            exact hS.2.1 q q1 q2
          · rcases List.mem_append.mp hq with h | h
            · exact hS.2.2 q h
            · obtain ⟨z, -, hz⟩ := List.mem_map.mp h
              rw [← hz]
              exact Nat.le_add_right _ _
        have K := hV H1 _ ls hR' hS' hl (by rw [List.length_set]; exact hk) hn
        rw [List.length_set] at K
        obtain ⟨t, a1, b1⟩ := K _ hheap X'
        exact ⟨t, step t a1, b1⟩
    · cases h
  · cases h
theorem am_t_n2 {i : Nat} (G : am_Gd P B) (hnt : am_nat P mi i = some 2) (hC : am_X P B D Z p R s m args meth c mi) (hdg : decode (am_cc B mi) pc = .ok (.invokevirtual i, 3)) (h : am_nt P 2 pc lv st M = some (pc', lv', st', M')) (hrc : M'.1.length - k0 ≤ R.cells) (hrs : M'.2 - n0 ≤ R.slots)
    (hV : am_V p l e R s m args below meth c Q P B D Z mi k0 n0 pc' lv' st' M') : am_V p l e R s m args below meth c Q P B D Z mi k0 n0 pc lv st M := by
  obtain ⟨hx, hb, hml, hr, hlk, hown, hin0, hts, hNw, hK, hKc, hbs, hrF, hrL⟩ := hC
  obtain ⟨-, -, -, -, -, -, G7, -, -, Ga, -⟩ := G
  obtain ⟨g1, g2, w1, w2, w3, w4, w5, w6⟩ := Ga _ _ _ hnt
  replace h : am_n2 P pc lv st M = some (pc', lv', st', M') := h
  unfold am_n2 at h
  split at h
  · rename_i cn r
    split at h
    · rename_i n f hcf
      by_cases hc : am_sum r ≤ 8 ∧ cn ≠ 0
      · rw [if_pos hc] at h
        cases h
        obtain ⟨c1, c2, ⟨scr, d1, d2, d3, d4, d5⟩, c4⟩ := hKc.1 _ _ _ hcf
        obtain ⟨cell, d6, d7⟩ := c4 hc.2
        cases d1.symm.trans d6
        have hcA : scr.cls = Z.1 0 := Option.some.inj (d7.symm.trans (hK.2 0 _ (am_tyg G7.2.2.1)).2)
        have hsl : ({ cls := scr.cls, slots := scr.slots } : Cell) = vp_cell (Z.1 0) (n, .inl f) := by
          rw [vp_cell_i, hcA]
          unfold arrV
          congr 1
          apply Array.ext
          · rw [d4]; simp
          · intro j h1 h2
            have h3 := d5 j (by rw [← d4]; exact h1)
            rw [Array.getElem?_eq_getElem h1] at h3
            rw [Option.some.inj h3]
            simp
        obtain ⟨f0, f1, f2, f3, f4⟩ := Cond.castable_spec (va_Nw.use (A := args) rfl (hNw _ w6))
        cases d7.symm.trans f2
        intro H locs ls hR hS hl hk hn T hT X
        have e0 : (M.1 ++ [(.inl (0, n, .inl f) : am_O)]).length - k0 = M.1.length - k0 + 1 := by rw [List.length_append]; simp; omega
        have e9 : M.2 + n - n0 = M.2 - n0 + n := by omega
        have hcellT : T.heap[Z.2.1 cn]? = some scr := by rw [hT, hS.2.1 _ c2 (Nat.not_le.mpr c1)]; exact d1
        obtain ⟨hvs, kS, hkS, compS, hkindS⟩ := d2
        obtain ⟨-, kT, hkT, compT, hkindT⟩ := State.isArrayOf_alike X.warmed.alike (show s.isArrayOf scr .int from ⟨hvs, kS, hkS, compS, hkindS⟩)
        obtain ⟨vm', X', step⟩ := X.cloneArray hx hown (hts _ w1) (hts _ w2) (hts _ w3) (hts _ w4) (hts _ w5) (a := Z.2.1 cn) (cell := scr) hcellT hvs d3 d7 f3 f4
          (fun i v hv => by
            have hi : i < n := by
              have := (Array.getElem?_eq_some_iff.mp hv).1
              omega
            have e5 := d5 i hi
            rw [hv] at e5
            cases e5
            simp [State.fitsSlot, State.slotType?, hkT, hkindT]
            rfl)
          (g := F0 m pc ls (.ref (Z.2.1 cn) :: r.map (am_tr Z.2.1 Z.2.2))) rfl (by rw [hml]; exact hl.1) rfl (by rw [hb]; exact hdg) (Nat.le_trans g1 hrF) (by rw [am_sumT]; show 2 * 0 + am_sum r + 14 ≤ R.locals; omega) (by rw [← e0]; exact hrc) (by rw [d4, ← e9]; exact hrs) (hloader := Vm.clonesLoader_of_array hkS hkindS)
        rw [hsl, d4] at X'
        rw [hsl] at step
        generalize hH1 : H.push (vp_cell (Z.1 0) (n, .inl f)) = H1
        have z1 : H1.size = H.size + 1 := by rw [← hH1, Array.size_push]
        have e1 : H1[H.size]? = some (vp_cell (Z.1 0) (n, .inl f)) := by rw [← hH1, Array.getElem?_push_size]
        have o1 : ∀ q : Nat, q < H.size → H1[q]? = H[q]? := fun q hq => by rw [← hH1, Array.getElem?_push, if_neg (Nat.ne_of_lt hq)]
        have hR' : am_R D (am_kl B) Z (M.1 ++ [.inl (0, n, .inl f)], M.2 + n) H1 := hR.push e1 z1 o1
        have K := hV H1 _ ls hR' (am_S_push hS z1 o1) hl (by rw [List.length_append]; simp; omega) (by show n0 ≤ M.2 + n; omega)
        rw [show (F0 m (pc + 3) ls (((.ref M.1.length : Value) :: r).map (am_tr Z.2.1 Z.2.2))) = F0 m (pc + 3) ls (.ref T.heap.size :: r.map (am_tr Z.2.1 Z.2.2)) by rw [hT, hR.2]; rfl] at K
        have K := (show W p l e R s m args below meth c H1 locs ((M.1 ++ [(.inl (0, n, .inl f) : am_O)]).length - k0) (M.2 + n - n0) Q _ from K)
        rw [e0, e9] at K
        obtain ⟨t, a1, b1⟩ := K _ (by rw [← hH1, ← hT]; rfl) X'
        exact ⟨t, step t a1, b1⟩
      · rw [if_neg hc] at h; cases h
    · cases h
  · cases h
theorem am_t_invokespecial {i : Nat} (G : am_Gd P B) (hC : am_X P B D Z p R s m args meth c mi) (hdg : decode (am_cc B mi) pc = .ok (.invokespecial i, 3)) (h : am_st P mi (.invokespecial i) pc lv st M = some (pc', lv', st', M'))
    (hV : am_V p l e R s m args below meth c Q P B D Z mi k0 n0 pc' lv' st' M') : am_V p l e R s m args below meth c Q P B D Z mi k0 n0 pc lv st M := by
  unfold am_st at h
  dsimp only at h
  split at h
  · rename_i k hk
    unfold am_ntk at hk
    dsimp only at hk
    split at hk
    · rename_i hn
      cases hk
      exact am_t_n0 G hn hC hdg h hV
    · cases hk
  · cases h
theorem am_t_invokestatic {i : Nat} (G : am_Gd P B) (hC : am_X P B D Z p R s m args meth c mi) (hdg : decode (am_cc B mi) pc = .ok (.invokestatic i, 3)) (h : am_st P mi (.invokestatic i) pc lv st M = some (pc', lv', st', M'))
    (hV : am_V p l e R s m args below meth c Q P B D Z mi k0 n0 pc' lv' st' M') : am_V p l e R s m args below meth c Q P B D Z mi k0 n0 pc lv st M := by
  unfold am_st at h
  dsimp only at h
  split at h
  · rename_i k hk
    unfold am_ntk at hk
    dsimp only at hk
    split at hk
    · rename_i hn
      cases hk
      exact am_t_n1 G hn hC hdg h hV
    · rename_i hn
      cases hk
      exact am_t_n3 G hn hC hdg h hV
    · rename_i hn
      cases hk
      exact am_t_n4 G hn hC hdg h hV
    · cases hk
  · cases h
theorem am_t_invokevirtual {i : Nat} (G : am_Gd P B) (hC : am_X P B D Z p R s m args meth c mi) (hdg : decode (am_cc B mi) pc = .ok (.invokevirtual i, 3)) (h : am_st P mi (.invokevirtual i) pc lv st M = some (pc', lv', st', M')) (hrc : M'.1.length - k0 ≤ R.cells) (hrs : M'.2 - n0 ≤ R.slots)
    (hV : am_V p l e R s m args below meth c Q P B D Z mi k0 n0 pc' lv' st' M') : am_V p l e R s m args below meth c Q P B D Z mi k0 n0 pc lv st M := by
  unfold am_st at h
  dsimp only at h
  split at h
  · rename_i k hk
    unfold am_ntk at hk
    dsimp only at hk
    split at hk
    · rename_i hn
      cases hk
      exact am_t_n2 G hn hC hdg h hrc hrs hV
    · cases hk
  · cases h
end AMN
