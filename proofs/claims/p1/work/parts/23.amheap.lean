/-! ===== the steps that read and write the heap ===== -/
section AMH
variable {p : Program} {l : Launch} {e : Env} {R : Room} {s : State} {m : MethodId} {args : Array Value} {below : List Frame} {meth : Method} {c : Code} {Q : State → Prop}
variable {P : am_Pg} {B : am_Nm} {D : va_G} {Z : am_Z} {mi : Nat} {k0 n0 : Nat} {pc pc' len : Nat} {lv lv' : am_L} {st st' : List Value} {M M' : am_M}
theorem am_ft_ok (cs : Nat → Nat) (base : Nat) {ty : FieldType} {v : Value} (h : am_ft ty v = true) : narrow ty (am_tr cs base v) = am_tr cs base v ∧ fits ty (am_tr cs base v) = true := by
  unfold am_ft at h
  split at h
  · exact ⟨rfl, rfl⟩
  · rename_i x
    simp only [Bool.or_eq_true, decide_eq_true_eq] at h
    rcases h with rfl | rfl
    · exact ⟨rfl, show fits .boolean (.int 0) = true by decide⟩
    · exact ⟨rfl, show fits .boolean (.int 1) = true by decide⟩
  · exact ⟨rfl, rfl⟩
  · exact ⟨rfl, rfl⟩
  · exact ⟨rfl, rfl⟩
  · exact ⟨rfl, rfl⟩
  · exact ⟨rfl, rfl⟩
  · cases h
theorem am_at_i (cA : ClassId) (n : Nat) (f : Nat → Int32) (k : Nat) (x : Int32) : (vp_cell cA (n, .inl f)).setSlot k (.int x) = vp_cell cA (n, .inl (upd f k x)) := by
  rw [vp_cell_i, vp_cell_i, arrV_store]
  congr 1
  funext q
  by_cases hq : q = k
  · subst hq
    simp [updV, upd]
  · simp [updV, upd, hq]
theorem am_at_l (cA : ClassId) (n : Nat) (f : Nat → Int64) (k : Nat) (x : Int64) : (vp_cell cA (n, .inr (.inl f))).setSlot k (.long x) = vp_cell cA (n, .inr (.inl (vp_updL f k x))) := by
  rw [vp_cell_l, vp_cell_l, arrV_store]
  congr 1
  funext q
  by_cases hq : q = k
  · subst hq
    simp [updV, vp_updL]
  · simp [updV, vp_updL, hq]
theorem am_at_q (cA : ClassId) (n : Nat) (f : Nat → Option Nat) (k v : Nat) : (vp_cell cA (n, .inr (.inr (.inr (.inr f))))).setSlot k (.ref v) = vp_cell cA (n, .inr (.inr (.inr (.inr (va_up f k (some v)))))) := by
  rw [vp_cell_q, vp_cell_q, arrV_store]
  congr 1
  funext q
  by_cases hq : q = k
  · subst hq
    simp [updV, va_up, va_rf]
  · simp [updV, va_up, hq]
theorem am_S_push {A : Nat → Prop} {H0 H H1 : Heap} {locs : List Loc} (h : va_S A H0 H locs) (z : H1.size = H.size + 1) (oq : ∀ q : Nat, q < H.size → H1[q]? = H[q]?) : va_S A H0 H1 locs :=
  ⟨Nat.le_trans h.1 (by omega), fun x h1 h2 => (oq x (Nat.lt_of_lt_of_le h1 h.1)).trans (h.2.1 x h1 h2), h.2.2⟩
theorem am_t_getfield {i : Nat} (G : am_Gd P B) (hC : am_X P B D Z p R s m args meth c mi) (hdg : decode (am_cc B mi) pc = .ok (.getfield i, 3)) (h : am_st P mi (.getfield i) pc lv st M = some (pc', lv', st', M'))
    (hV : am_V p l e R s m args below meth c Q P B D Z mi k0 n0 pc' lv' st' M') : am_V p l e R s m args below meth c Q P B D Z mi k0 n0 pc lv st M := by
  obtain ⟨hx, hb, hml, hr, hlk, hown, hin0, hts, hNw, hK, -⟩ := hC
  obtain ⟨-, G2, G3, -⟩ := G
  unfold am_st am_gf at h
  dsimp only at h
  split at h
  · rename_i a r
    split at h
    · rename_i ci k cj fs hf ho
      by_cases hc : ci = cj
      · subst hc
        rw [if_pos rfl] at h
        obtain ⟨v, hv, rfl, rfl, rfl, rfl⟩ := am_pu_inv h
        obtain ⟨q, hq, hkN, hln⟩ := G3 _ _ _ _ hf
        obtain ⟨-, g2, g3, -⟩ := G2 _ _ hq
        have hsame : ∀ x, s.fieldFound? (q.2.1 k).1 (q.2.1 k).2.1 (q.2.1 k).2.2.1 = some x → s.fieldFound? q.1 (q.2.1 k).2.1 (q.2.1 k).2.2.1 = some x := by
          intro x hx'
          rw [(g3 k hkN).2.2] at hx'
          exact hx'
        intro H locs ls hR hS hl hk hn
        have K := hV H locs ls hR hS hl hk hn
        have he := am_ws_get (Z := Z) ho
        have hv' : (fs.map (am_tr Z.2.1 Z.2.2))[k]? = some (am_tr Z.2.1 Z.2.2 v) := by rw [List.getElem?_map, hv]; rfl
        rcases hln with hw | ⟨-, host, hw⟩
        · exact va_get (D := D) (C := q.1) (T := q.2.1) (N := q.2.2) hx hb hts g2 hown hK hR.1 a he hq k hkN (hts _ hw) hsame hv' hdg K
        · exact va_getN (D := D) (C := q.1) (T := q.2.1) (N := q.2.2) hx hb hts g2 hown hK hR.1 a he hq k hkN (va_Nw.use rfl (hNw _ hw)) hsame hv' hdg K
      · rw [if_neg hc] at h; cases h
    · cases h
  · cases h
theorem am_t_putfield {i : Nat} (G : am_Gd P B) (hC : am_X P B D Z p R s m args meth c mi) (hdg : decode (am_cc B mi) pc = .ok (.putfield i, 3)) (h : am_st P mi (.putfield i) pc lv st M = some (pc', lv', st', M'))
    (hV : am_V p l e R s m args below meth c Q P B D Z mi k0 n0 pc' lv' st' M') : am_V p l e R s m args below meth c Q P B D Z mi k0 n0 pc lv st M := by
  obtain ⟨hx, hb, hml, hr, hlk, hown, hin0, hts, hNw, hK, -⟩ := hC
  obtain ⟨-, G2, G3, -⟩ := G
  unfold am_st am_pf at h
  dsimp only at h
  split at h
  · rename_i v a r
    split at h
    · rename_i ci k cj fs hf ho
      generalize hbq : (decide (ci = cj) && (decide (k < fs.length) && (am_ft (am_fty P ci k) v && (!am_fin P ci k || (am_ini P mi && decide (am_own P mi = ci)))))) = bq at h
      cases bq with
      | false => cases h
      | true =>
        cases h
        simp only [Bool.and_eq_true, decide_eq_true_eq] at hbq
        obtain ⟨rfl, hkl, hft, hfn⟩ := hbq
        obtain ⟨q, hq, hkN, hln⟩ := G3 _ _ _ _ hf
        obtain ⟨gcn, g2, g3, gnm⟩ := G2 _ _ hq
        obtain ⟨gp, gf, gd⟩ := g3 k hkN
        obtain ⟨hnr, hfit⟩ := am_ft_ok Z.2.1 Z.2.2 hft
        have hty : ∀ j, j < q.2.2 → parseFieldDescriptor (q.2.1 j).2.2.1 = some (am_fty P ci j) := fun j hj => (g3 j hj).1
        intro H locs ls hR hS hl hk hn
        have he := am_ws_get (Z := Z) ho
        have hap := va_apart (own := am_cn B (am_own P mi)) hts g2 (am_fty P ci) hty gnm hK hq
        obtain ⟨q', h1, cell, q1, q2, q3, q4⟩ := hR.1 a _ he
        have hqq : q' = q := Option.some.inj (h1.symm.trans hq)
        subst hqq
        obtain ⟨hSl, hfc, kC, hkC, hkind⟩ := hK.1 ci _ hq
        obtain ⟨cf, kf, fi, f, hi, hsl⟩ := hSl k hkN
        have hst := (u_facts hfc hkC (u_lays hts g2 hkN) hi).1
        have hlay := hts _ (g2 _ (u_in_lay hkN))
        have hi' : s.fieldFound? q'.1 (q'.2.1 k).2.1 (q'.2.1 k).2.2.1 = some (cf, kf, fi, f) := by rw [gd] at hi; exact hi
        have hlm : k < (fs.map (am_tr Z.2.1 Z.2.2)).length := by rw [List.length_map]; exact hkl
        have fin : ∀ H' : Heap, H'[Z.2.2 + a]? = some (cell.setSlot f.slot (am_tr Z.2.1 Z.2.2 v)) → H'.size = H.size → (∀ q : Nat, q ≠ Z.2.2 + a → H'[q]? = H[q]?) → W p l e R s m args below meth c H' (locs ++ [⟨Z.2.2 + a, f.slot⟩]) (M.1.length - k0) (M.2 - n0) Q (F0 m (pc + 3) ls (st'.map (am_tr Z.2.1 Z.2.2))) := by
          intro H' e1 e2 e3
          rw [hsl] at e1 ⊢
          have hR' : am_R D (am_kl B) Z (M.1.set a (.inr (ci, fs.set k v)), M.2) H' := by
            refine hR.set ho ?_ e2 e3
            show va_at D (am_kl B) (Z.2.2 + a, .inr (ci, (fs.set k v).map (am_tr Z.2.1 Z.2.2))) H'
            rw [List.map_set]
            exact ⟨_, hq, t_OB.to (V := updV (vp_V (fs.map (am_tr Z.2.1 Z.2.2))) k (am_tr Z.2.1 Z.2.2 v)) ⟨_, e1, q2, q3, t_set q4 hap hkN _⟩ (fun j _ => vp_updV_set hlm _ j)⟩
          have K := hV H' _ ls hR' (hS.put (k := (D.2 ci) k) e2 e3 (Nat.le_add_right _ _)) hl (by rw [List.length_set]; exact hk) hn
          rw [List.length_set] at K
          exact K
        cases hfb : am_fin P ci k with
        | false =>
          unfold u_lay at hlay
          rw [if_neg (by rw [gf, hfb]; decide)] at hlay
          have h6 := u_store hfc hkC hkind hlay hi gp hnr hfit
          rcases hln with hw | ⟨-, host, hw⟩
          · exact W.putK hx hb (f := f) ⟨hown, hts _ hw, ⟨_, _, _, hi'⟩, hst⟩ (by rw [q2]; exact h6) q1 q3 (by rw [hsl]; exact k2_hasslot (q4 k hkN)) rfl rfl hdg fin
          · exact va_WputK hx hb (f := f) hown (va_Nw.use rfl (hNw _ hw)) hi' hst (by rw [q2]; exact h6) q1 q3 (by rw [hsl]; exact k2_hasslot (q4 k hkN)) rfl rfl hdg fin
        | true =>
          rw [hfb] at hfn
          simp only [Bool.not_true, Bool.false_or, Bool.and_eq_true, decide_eq_true_eq] at hfn
          obtain ⟨hin1, hoc⟩ := hfn
          unfold u_lay at hlay
          rw [if_pos (by rw [gf, hfb])] at hlay
          have h6 := u_fits hfc hkC hkind (Or.inr hlay) hi gp hnr hfit
          have hcl : s.vm.findClass q'.1 = some m.cls := by rw [← gcn, ← hoc]; exact hown
          have hcf : m.cls = cf := by
            rw [gd] at hlay
            exact laid_decl hcl hlay hi'
          rcases hln with hw | ⟨hne, -⟩
          · exact W.putFinK hx hb hown (hts _ hw) hi' hst hcf (hin0 hin1) (by rw [q2]; exact h6) q1 q3 (by rw [hsl]; exact k2_hasslot (q4 k hkN)) rfl rfl hdg fin
          · exact absurd hoc hne
    · cases h
  · cases h
theorem am_t_getstatic {i : Nat} (G : am_Gd P B) (hC : am_X P B D Z p R s m args meth c mi) (hdg : decode (am_cc B mi) pc = .ok (.getstatic i, 3)) (h : am_st P mi (.getstatic i) pc lv st M = some (pc', lv', st', M'))
    (hV : am_V p l e R s m args below meth c Q P B D Z mi k0 n0 pc' lv' st' M') : am_V p l e R s m args below meth c Q P B D Z mi k0 n0 pc lv st M := by
  obtain ⟨hx, hb, hml, hr, hlk, hown, hin0, hts, hNw, hK, hKc, -⟩ := hC
  obtain ⟨-, -, -, G4, -⟩ := G
  unfold am_st at h
  dsimp only at h
  split at h
  · rename_i cn hcn
    cases h
    obtain ⟨k, q, rfl, hq, hln⟩ := G4 _ _ _ hcn
    intro H locs ls hR hS hl hk hn
    have K := hV H locs ls hR hS hl hk hn
    rcases hln with hw | ⟨host, hw⟩
    · exact va_gets hx hb (hKc.2 k q hq) hS hown (hts _ hw) (fun _ h9 => h9) hdg K
    · exact va_getsN hx hb (hKc.2 k q hq) hS hown (va_Nw.use rfl (hNw _ hw)) (fun _ h9 => h9) hdg K
  · cases h
theorem am_t_ldc {i : Nat} (G : am_Gd P B) (hC : am_X P B D Z p R s m args meth c mi) (hdg : decode (am_cc B mi) pc = .ok (.ldc i, 2)) (h : am_st P mi (.ldc i) pc lv st M = some (pc', lv', st', M'))
    (hV : am_V p l e R s m args below meth c Q P B D Z mi k0 n0 pc' lv' st' M') : am_V p l e R s m args below meth c Q P B D Z mi k0 n0 pc lv st M := by
  obtain ⟨hx, hb, hml, hr, hlk, hown, hin0, hts, -⟩ := hC
  obtain ⟨-, -, -, -, G5, -⟩ := G
  unfold am_st at h
  dsimp only at h
  split at h
  · rename_i v hv
    cases h
    exact fun H locs ls hR hS hl hk hn => lv_ldc hx hb hown (hts _ (G5 _ _ _ hv)) hdg (hV H locs ls hR hS hl hk hn)
  · rename_i v hv
    cases h
    exact fun H locs ls hR hS hl hk hn => lv_ldcf hx hb hown (hts _ (G5 _ _ _ hv)) hdg (hV H locs ls hR hS hl hk hn)
  · cases h
/-- a float by its wide number -/
theorem am_ldcwf {cc : ByteArray} {H : Heap} {locs : List Loc} {cells slots : Nat} {ls : Array Slot} {rest : List Value} (hexec : p.tables.exec = Jvm.exec) (hb : c.code = cc) {own : String} {index : Nat} {v : UInt32} (hown : s.vm.findClass own = some m.cls) (hconst : (Jvm.Cond.constantFloat own index v).before args s = true) (hdg : decode cc pc = .ok (.ldc_w index, 3)) (k : W p l e R s m args below meth c H locs cells slots Q (F0 m (pc + 3) ls (.float v :: rest))) : W p l e R s m args below meth c H locs cells slots Q (F0 m pc ls rest) := by
  intro T hT X
  obtain ⟨t, a, b⟩ := k T hT X
  refine ⟨t, ?_, b⟩
  obtain ⟨kc, cf, q1, q2, q3⟩ := Cond.constantFloat_spec hown hconst
  obtain ⟨kc', q4, q5⟩ := X.warmed.alike.2.2 _ _ q1
  have hd : decode c.code (F0 m pc ls rest).pc = .ok (.ldc_w index, 3) := by rw [hb]; exact hdg
  jvm_step X.here [hexec, hd, ldc_w.wp_float (s := T) (f := F0 m pc ls rest) X.here.top q4 (by rw [q5]; exact q2) q3]
  exact a
theorem am_t_ldc_w {i : Nat} (G : am_Gd P B) (hC : am_X P B D Z p R s m args meth c mi) (hdg : decode (am_cc B mi) pc = .ok (.ldc_w i, 3)) (h : am_st P mi (.ldc_w i) pc lv st M = some (pc', lv', st', M'))
    (hV : am_V p l e R s m args below meth c Q P B D Z mi k0 n0 pc' lv' st' M') : am_V p l e R s m args below meth c Q P B D Z mi k0 n0 pc lv st M := by
  obtain ⟨hx, hb, hml, hr, hlk, hown, hin0, hts, -⟩ := hC
  obtain ⟨-, -, -, -, G5, -⟩ := G
  unfold am_st at h
  dsimp only at h
  split at h
  · rename_i v hv
    cases h
    exact fun H locs ls hR hS hl hk hn => lv_ldcw hx hb hown (hts _ (G5 _ _ _ hv)) hdg (hV H locs ls hR hS hl hk hn)
  · rename_i v hv
    cases h
    exact fun H locs ls hR hS hl hk hn => am_ldcwf hx hb hown (hts _ (G5 _ _ _ hv)) hdg (hV H locs ls hR hS hl hk hn)
  · cases h
theorem am_t_ldc2_w {i : Nat} (G : am_Gd P B) (hC : am_X P B D Z p R s m args meth c mi) (hdg : decode (am_cc B mi) pc = .ok (.ldc2_w i, 3)) (h : am_st P mi (.ldc2_w i) pc lv st M = some (pc', lv', st', M'))
    (hV : am_V p l e R s m args below meth c Q P B D Z mi k0 n0 pc' lv' st' M') : am_V p l e R s m args below meth c Q P B D Z mi k0 n0 pc lv st M := by
  obtain ⟨hx, hb, hml, hr, hlk, hown, hin0, hts, -⟩ := hC
  obtain ⟨-, -, -, -, G5, -⟩ := G
  unfold am_st at h
  dsimp only at h
  split at h
  · rename_i v hv
    cases h
    exact fun H locs ls hR hS hl hk hn => lv_ldc2 hx hb hown (hts _ (G5 _ _ _ hv)) hdg (hV H locs ls hR hS hl hk hn)
  · rename_i v hv
    cases h
    exact fun H locs ls hR hS hl hk hn => lv_ldc2d hx hb hown (hts _ (G5 _ _ _ hv)) hdg (hV H locs ls hR hS hl hk hn)
  · cases h
theorem am_t_iaload (G : am_Gd P B) (hC : am_X P B D Z p R s m args meth c mi) (hdg : decode (am_cc B mi) pc = .ok (.iaload, 1)) (h : am_st P mi .iaload pc lv st M = some (pc', lv', st', M'))
    (hV : am_V p l e R s m args below meth c Q P B D Z mi k0 n0 pc' lv' st' M') : am_V p l e R s m args below meth c Q P B D Z mi k0 n0 pc lv st M := by
  obtain ⟨hx, hb, hml, hr, hlk, hown, hin0, hts, hNw, hK, hKc, -⟩ := hC
  obtain ⟨-, -, -, -, -, -, G7, -⟩ := G
  unfold am_st am_ald at h
  dsimp only at h
  split at h
  · rename_i i a r
    split at h
    · rename_i n f ho
      cases hi : am_in i n with
      | false => rw [hi] at h; cases h
      | true =>
        rw [hi] at h
        cases h
        exact fun H locs ls hR hS hl hk hn => va_iald hx hb hK hR.1 a 0 (am_ws_get ho) (am_tyg G7.2.2.1) (am_in_inv hi) hdg (hV H locs ls hR hS hl hk hn)
    · cases h
  · rename_i i a r
    split at h
    · rename_i n f hc
      cases hi : am_in i n with
      | false => rw [hi] at h; cases h
      | true =>
        rw [hi] at h
        cases h
        obtain ⟨c1, c2, c3, -⟩ := hKc.1 _ _ _ hc
        exact fun H locs ls hR hS hl hk hn => va_sld hx hb c3 c2 (Nat.not_le.mpr c1) hS (am_in_inv hi) hdg (hV H locs ls hR hS hl hk hn)
    · cases h
  · cases h
theorem am_t_iastore (G : am_Gd P B) (hC : am_X P B D Z p R s m args meth c mi) (hdg : decode (am_cc B mi) pc = .ok (.iastore, 1)) (h : am_st P mi .iastore pc lv st M = some (pc', lv', st', M'))
    (hV : am_V p l e R s m args below meth c Q P B D Z mi k0 n0 pc' lv' st' M') : am_V p l e R s m args below meth c Q P B D Z mi k0 n0 pc lv st M := by
  obtain ⟨hx, hb, hml, hr, hlk, hown, hin0, hts, hNw, hK, hKc, -⟩ := hC
  obtain ⟨-, -, -, -, -, -, G7, -⟩ := G
  unfold am_st am_ast at h
  dsimp only at h
  split at h
  · rename_i x i a r
    split at h
    · rename_i n f ho
      cases hi : am_in i n with
      | false => rw [hi] at h; cases h
      | true =>
        rw [hi] at h
        cases h
        intro H locs ls hR hS hl hk hn
        have hat := hR.1 a _ (am_ws_get ho)
        refine W.iast hx hb hat ((hK.2 0 _ (am_tyg G7.2.2.1)).1 n (fun j => .int (f j))) (fun q => by cases q) (by show ¬ (i < 0 ∨ (arrV _ _ _).slots.size ≤ _); rw [arrV_size]; exact am_in_inv hi) rfl rfl hdg fun H1 e1 z oq => ?_
        have hR' : am_R D (am_kl B) Z (M.1.set a (.inl (0, n, .inl (upd f i.toNatClampNeg x))), M.2) H1 := by
          refine hR.set ho ?_ z oq
          exact e1.trans (congrArg some (am_at_i _ _ _ _ _))
        have K := hV H1 _ ls hR' (hS.put (k := i.toNatClampNeg) z oq (Nat.le_add_right _ _)) hl (by rw [List.length_set]; exact hk) hn
        rw [List.length_set] at K
        exact K
    · cases h
  · cases h
theorem am_t_laload (G : am_Gd P B) (hC : am_X P B D Z p R s m args meth c mi) (hdg : decode (am_cc B mi) pc = .ok (.laload, 1)) (h : am_st P mi .laload pc lv st M = some (pc', lv', st', M'))
    (hV : am_V p l e R s m args below meth c Q P B D Z mi k0 n0 pc' lv' st' M') : am_V p l e R s m args below meth c Q P B D Z mi k0 n0 pc lv st M := by
  obtain ⟨hx, hb, hml, hr, hlk, hown, hin0, hts, hNw, hK, hKc, -⟩ := hC
  obtain ⟨-, -, -, -, -, -, G7, -⟩ := G
  unfold am_st am_lald at h
  dsimp only at h
  split at h
  · rename_i i a r
    split at h
    · rename_i n f ho
      cases hi : am_in i n with
      | false => rw [hi] at h; cases h
      | true =>
        rw [hi] at h
        cases h
        exact fun H locs ls hR hS hl hk hn => va_lald hx hb hK hR.1 a 1 (am_ws_get ho) (am_tyg G7.2.2.2) (am_in_inv hi) hdg (hV H locs ls hR hS hl hk hn)
    · cases h
  · cases h
theorem am_t_lastore (G : am_Gd P B) (hC : am_X P B D Z p R s m args meth c mi) (hdg : decode (am_cc B mi) pc = .ok (.lastore, 1)) (h : am_st P mi .lastore pc lv st M = some (pc', lv', st', M'))
    (hV : am_V p l e R s m args below meth c Q P B D Z mi k0 n0 pc' lv' st' M') : am_V p l e R s m args below meth c Q P B D Z mi k0 n0 pc lv st M := by
  obtain ⟨hx, hb, hml, hr, hlk, hown, hin0, hts, hNw, hK, hKc, -⟩ := hC
  obtain ⟨-, -, -, -, -, -, G7, -⟩ := G
  unfold am_st am_last at h
  dsimp only at h
  split at h
  · rename_i x i a r
    split at h
    · rename_i n f ho
      cases hi : am_in i n with
      | false => rw [hi] at h; cases h
      | true =>
        rw [hi] at h
        cases h
        intro H locs ls hR hS hl hk hn
        have hat := hR.1 a _ (am_ws_get ho)
        refine W.last hx hb hat ((hK.2 1 _ (am_tyg G7.2.2.2)).1 n (fun j => .long (f j))) (fun q => by cases q) (by show ¬ (i < 0 ∨ (arrV _ _ _).slots.size ≤ _); rw [arrV_size]; exact am_in_inv hi) rfl rfl hdg fun H1 e1 z oq => ?_
        have hR' : am_R D (am_kl B) Z (M.1.set a (.inl (1, n, .inr (.inl (vp_updL f i.toNatClampNeg x)))), M.2) H1 := by
          refine hR.set ho ?_ z oq
          exact e1.trans (congrArg some (am_at_l _ _ _ _ _))
        have K := hV H1 _ ls hR' (hS.put (k := i.toNatClampNeg) z oq (Nat.le_add_right _ _)) hl (by rw [List.length_set]; exact hk) hn
        rw [List.length_set] at K
        exact K
    · cases h
  · cases h
theorem am_t_aaload (G : am_Gd P B) (hC : am_X P B D Z p R s m args meth c mi) (hdg : decode (am_cc B mi) pc = .ok (.aaload, 1)) (h : am_st P mi .aaload pc lv st M = some (pc', lv', st', M'))
    (hV : am_V p l e R s m args below meth c Q P B D Z mi k0 n0 pc' lv' st' M') : am_V p l e R s m args below meth c Q P B D Z mi k0 n0 pc lv st M := by
  obtain ⟨hx, hb, hml, hr, hlk, hown, hin0, hts, hNw, hK, hKc, -⟩ := hC
  obtain ⟨-, -, -, -, -, -, -, G8, -⟩ := G
  unfold am_st am_qald at h
  dsimp only at h
  split at h
  · rename_i i a r
    split at h
    · rename_i t n f ho
      cases hi : (decide (2 ≤ t ∧ t < 5) && am_in i n) with
      | false => rw [hi] at h; cases h
      | true =>
        rw [hi] at h
        cases h
        simp only [Bool.and_eq_true, decide_eq_true_eq] at hi
        obtain ⟨q, hq, hqt⟩ := G8.2 t hi.1.1 hi.1.2
        intro H locs ls hR hS hl hk hn
        have K := hV H locs ls hR hS hl hk hn
        refine va_aldq (C := q.1) hx hb hK hR.1 a t (am_ws_get ho) (am_tyg hqt) (am_in_inv hi.2) hdg ?_
        rw [List.map_cons] at K
        show W p l e R s m args below meth c H locs (M.1.length - k0) (M.2 - n0) Q (F0 m (pc + 1) ls (va_rf ((f i.toNatClampNeg).map (fun x => Z.2.2 + x)) :: r.map (am_tr Z.2.1 Z.2.2)))
        cases hfv : f i.toNatClampNeg with
        | none => rw [hfv] at K; exact K
        | some v => rw [hfv] at K; exact K
    · cases h
  · cases h
theorem am_t_aastore (G : am_Gd P B) (hC : am_X P B D Z p R s m args meth c mi) (hdg : decode (am_cc B mi) pc = .ok (.aastore, 1)) (h : am_st P mi .aastore pc lv st M = some (pc', lv', st', M'))
    (hV : am_V p l e R s m args below meth c Q P B D Z mi k0 n0 pc' lv' st' M') : am_V p l e R s m args below meth c Q P B D Z mi k0 n0 pc lv st M := by
  obtain ⟨hx, hb, hml, hr, hlk, hown, hin0, hts, hNw, hK, hKc, -⟩ := hC
  obtain ⟨-, -, -, -, -, -, -, G8, -⟩ := G
  unfold am_st am_qast at h
  dsimp only at h
  split at h
  · rename_i v i a r
    split at h
    · rename_i t n f cj vs ho hov
      cases hi : (decide (2 ≤ t ∧ t < 5) && (decide (am_elt P t = cj) && am_in i n)) with
      | false => rw [hi] at h; cases h
      | true =>
        rw [hi] at h
        cases h
        simp only [Bool.and_eq_true, decide_eq_true_eq] at hi
        obtain ⟨ht, hel, hin⟩ := hi
        obtain ⟨q, hq, hqt⟩ := G8.2 t ht.1 ht.2
        rw [hel] at hq
        intro H locs ls hR hS hl hk hn
        have hlt : i.toNatClampNeg < n := Nat.not_le.mp fun q => am_in_inv hin (Or.inr q)
        have h0 : ¬ i < 0 := fun q => am_in_inv hin (Or.inl q)
        obtain ⟨r', hr', cellV, g1, g2, g3, -⟩ := hR.1 v _ (am_ws_get hov)
        have hat := hR.1 a _ (am_ws_get ho)
        have hcls := (hK.1 cj q hq).2
        obtain ⟨kA, comp, k1, k2, k3, -⟩ := (hK.2 t _ (am_tyg hqt)).2
        have hcomp : comp = D.1 cj := Option.some.inj (k3.symm.trans hcls.1)
        subst hcomp
        obtain ⟨kC, hkC, -⟩ := hcls.2
        refine W.aast hx hb hat (fun q h => by cases h) (fun h => by cases h) k1 k2 rfl hkC ⟨h0, by show _ < (arrV _ _ _).slots.size; rw [arrV_size]; exact hlt⟩ g1 (fun q h => by rw [g3] at h; cases h) (by rw [g2]; exact hkC) (by rw [g2]; exact va_assign hcls) rfl rfl hdg fun H1 e1 z oq => ?_
        have hR' : am_R D (am_kl B) Z (M.1.set a (.inl (t, n, .inr (.inr (.inr (.inr (va_up f i.toNatClampNeg (some v))))))), M.2) H1 := by
          refine hR.set ho ?_ z oq
          refine e1.trans (congrArg some ((am_at_q _ _ _ _ _).trans ?_))
          show vp_cell _ _ = vp_cell _ (n, .inr (.inr (.inr (.inr (fun i_1 => (va_up f i.toNatClampNeg (some v) i_1).map (fun x => Z.2.2 + x))))))
          have e9 : va_up (fun i => (f i).map (fun x => Z.2.2 + x)) i.toNatClampNeg (some (Z.2.2 + v)) = fun i_1 => (va_up f i.toNatClampNeg (some v) i_1).map (fun x => Z.2.2 + x) := by
            funext j
            by_cases hj : j = i.toNatClampNeg
            · subst hj; simp [va_up]
            · simp [va_up, hj]
          exact congrArg (fun f => vp_cell (Z.1 t) (n, .inr (.inr (.inr (.inr f))))) e9
        have K := hV H1 _ ls hR' (hS.put (k := i.toNatClampNeg) z oq (Nat.le_add_right _ _)) hl (by rw [List.length_set]; exact hk) hn
        rw [List.length_set] at K
        exact K
    · cases h
  · cases h
theorem am_t_arraylength (G : am_Gd P B) (hC : am_X P B D Z p R s m args meth c mi) (hdg : decode (am_cc B mi) pc = .ok (.arraylength, 1)) (h : am_st P mi .arraylength pc lv st M = some (pc', lv', st', M'))
    (hV : am_V p l e R s m args below meth c Q P B D Z mi k0 n0 pc' lv' st' M') : am_V p l e R s m args below meth c Q P B D Z mi k0 n0 pc lv st M := by
  obtain ⟨hx, hb, hml, hr, hlk, hown, hin0, hts, hNw, hK, hKc, -⟩ := hC
  obtain ⟨-, -, -, -, -, -, G7, G8, -⟩ := G
  unfold am_st am_len at h
  dsimp only at h
  split at h
  · rename_i a r
    split at h
    · rename_i t n x ho
      by_cases ht : t < 5
      · rw [if_pos ht] at h
        cases h
        have hty : ∃ ty, (am_T B)[t]? = some ty := by
          by_cases h2 : 2 ≤ t
          · obtain ⟨q, -, hq⟩ := G8.2 t h2 ht
            exact ⟨_, hq⟩
          · rcases (show t = 0 ∨ t = 1 by omega) with rfl | rfl
            · exact ⟨_, G7.2.2.1⟩
            · exact ⟨_, G7.2.2.2⟩
        obtain ⟨ty, hty⟩ := hty
        have hsz : ∀ y : (Nat → Int32) ⊕ (Nat → Int64) ⊕ (Nat → UInt32) ⊕ (Nat → UInt64) ⊕ (Nat → Option Nat), (am_tA Z.2.2 (n, y)).1 = n := by
          intro y
          rcases y with f | f | f | f | f <;> rfl
        intro H locs ls hR hS hl hk hn
        exact va_alen (D := D) hx hb hK hR.1 a t (am_ws_get ho) (am_tyg hty) (by rw [hsz]) hdg (hV H locs ls hR hS hl hk hn)
      · rw [if_neg ht] at h; cases h
    · cases h
  · rename_i a r
    split at h
    · rename_i n f hc
      cases h
      obtain ⟨c1, c2, c3, -⟩ := hKc.1 _ _ _ hc
      exact fun H locs ls hR hS hl hk hn => va_slen hx hb c3 c2 (Nat.not_le.mpr c1) hS hdg (hV H locs ls hR hS hl hk hn)
    · cases h
  · cases h
theorem am_t_new {i : Nat} (G : am_Gd P B) (hC : am_X P B D Z p R s m args meth c mi) (hdg : decode (am_cc B mi) pc = .ok (.new i, 3)) (h : am_st P mi (.new i) pc lv st M = some (pc', lv', st', M')) (hrc : M'.1.length - k0 ≤ R.cells) (hrs : M'.2 - n0 ≤ R.slots)
    (hV : am_V p l e R s m args below meth c Q P B D Z mi k0 n0 pc' lv' st' M') : am_V p l e R s m args below meth c Q P B D Z mi k0 n0 pc lv st M := by
  obtain ⟨hx, hb, hml, hr, hlk, hown, hin0, hts, hNw, hK, hKc, -⟩ := hC
  obtain ⟨-, G2, -, -, -, G6, -⟩ := G
  unfold am_st am_nw at h
  dsimp only at h
  split at h
  · rename_i ci fs hnw
    cases h
    obtain ⟨q, hq, w1, w2, w3, hfl, hdf⟩ := G6 _ _ _ _ hnw
    obtain ⟨-, g2, g3, -⟩ := G2 _ _ hq
    have hKn := hK.1 ci _ hq
    intro H locs ls hR hS hl hk hn
    have e0 : (M.1 ++ [(.inr (ci, fs) : am_O)]).length - k0 = M.1.length - k0 + 1 := by rw [List.length_append]; simp; omega
    have e9 : M.2 + fs.length - n0 = M.2 - n0 + q.2.2 := by omega
    refine W.newcK hx hb hown (hts _ w1) (hts _ w2) (hts _ w3) rfl hdg (by rw [← e0]; exact hrc) (by rw [← e9]; exact hrs) hKn.2.1 rfl fun H1 kC hkC e1 z1 o1 => ?_
    have hR' : am_R D (am_kl B) Z (M.1 ++ [.inr (ci, fs)], M.2 + fs.length) H1 := by
      refine hR.push ?_ z1 o1
      refine ⟨_, hq, (u_born (am_fty P ci) hts g2 hKn hkC e1 (fun j hj => (g3 j hj).1)).to (fun j hj => ?_)⟩
      have hd := hdf j hj
      have hj' : j < fs.length := by rw [hfl]; exact hj
      have e2 : vp_V (fs.map (am_tr Z.2.1 Z.2.2)) j = am_tr Z.2.1 Z.2.2 (vp_V fs j) := by
        simp [vp_V, hj']
      rw [e2, ← hd]
      cases am_fty P ci j <;> rfl
    have K := hV H1 _ ls hR' (am_S_push hS z1 o1) hl (by rw [List.length_append]; simp; omega) (by show n0 ≤ M.2 + fs.length; omega)
    rw [show (F0 m (pc + 3) ls (((.ref M.1.length : Value) :: st).map (am_tr Z.2.1 Z.2.2))) = F0 m (pc + 3) ls (.ref H.size :: st.map (am_tr Z.2.1 Z.2.2)) by rw [hR.2]; rfl] at K
    have K := (show W p l e R s m args below meth c H1 locs ((M.1 ++ [(.inr (ci, fs) : am_O)]).length - k0) (M.2 + fs.length - n0) Q _ from K)
    rw [e0, e9] at K
    exact K
  · cases h
theorem am_t_newarray {at_ : ArrayType} (G : am_Gd P B) (hC : am_X P B D Z p R s m args meth c mi) (hdg : decode (am_cc B mi) pc = .ok (.newarray at_, 2)) (h : am_st P mi (.newarray at_) pc lv st M = some (pc', lv', st', M')) (hrc : M'.1.length - k0 ≤ R.cells) (hrs : M'.2 - n0 ≤ R.slots)
    (hV : am_V p l e R s m args below meth c Q P B D Z mi k0 n0 pc' lv' st' M') : am_V p l e R s m args below meth c Q P B D Z mi k0 n0 pc lv st M := by
  obtain ⟨hx, hb, hml, hr, hlk, hown, hin0, hts, hNw, hK, hKc, -⟩ := hC
  obtain ⟨-, -, -, -, -, -, G7, -⟩ := G
  unfold am_st am_na at h
  dsimp only at h
  split at h
  · rename_i n r
    cases hi : (!(decide (n < 0)) && decide (n.toNatClampNeg ≤ 1000000)) with
    | false => rw [hi] at h; cases h
    | true =>
      rw [hi] at h
      cases h
      simp only [Bool.and_eq_true, Bool.not_eq_true', decide_eq_false_iff_not, decide_eq_true_eq] at hi
      intro H locs ls hR hS hl hk hn
      have e0 : (M.1 ++ [(.inl (0, n.toNatClampNeg, .inl (fun _ => 0)) : am_O)]).length - k0 = M.1.length - k0 + 1 := by rw [List.length_append]; simp; omega
      have e9 : M.2 + n.toNatClampNeg - n0 = M.2 - n0 + n.toNatClampNeg := by omega
      refine va_newaK (atype := .int) hx hb (hts _ G7.1) rfl hdg rfl hi.1 rfl (by show n.toNatClampNeg * 4 ≤ _; omega) (by rw [← e0]; exact hrc) (by rw [← e9]; exact hrs) rfl fun H1 cA e1 z1 o1 hAr hNm => ?_
      have hcA : cA = Z.1 0 := Option.some.inj (hNm.symm.trans (hK.2 0 _ (am_tyg G7.2.2.1)).2)
      have hR' : am_R D (am_kl B) Z (M.1 ++ [.inl (0, n.toNatClampNeg, .inl (fun _ => 0))], M.2 + n.toNatClampNeg) H1 := by
        refine hR.push ?_ z1 o1
        rw [hcA] at e1
        exact e1
      have K := hV H1 _ ls hR' (am_S_push hS z1 o1) hl (by rw [List.length_append]; simp; omega) (by show n0 ≤ M.2 + n.toNatClampNeg; omega)
      rw [show (F0 m (pc + 2) ls (((.ref M.1.length : Value) :: r).map (am_tr Z.2.1 Z.2.2))) = F0 m (pc + 2) ls (.ref H.size :: r.map (am_tr Z.2.1 Z.2.2)) by rw [hR.2]; rfl] at K
      have K := (show W p l e R s m args below meth c H1 locs ((M.1 ++ [(.inl (0, n.toNatClampNeg, .inl (fun _ => 0)) : am_O)]).length - k0) (M.2 + n.toNatClampNeg - n0) Q _ from K)
      rw [e0, e9] at K
      exact K
  · rename_i n r
    cases hi : (!(decide (n < 0)) && decide (n.toNatClampNeg ≤ 1000000)) with
    | false => rw [hi] at h; cases h
    | true =>
      rw [hi] at h
      cases h
      simp only [Bool.and_eq_true, Bool.not_eq_true', decide_eq_false_iff_not, decide_eq_true_eq] at hi
      intro H locs ls hR hS hl hk hn
      have e0 : (M.1 ++ [(.inl (1, n.toNatClampNeg, .inr (.inl (fun _ => 0))) : am_O)]).length - k0 = M.1.length - k0 + 1 := by rw [List.length_append]; simp; omega
      have e9 : M.2 + n.toNatClampNeg - n0 = M.2 - n0 + n.toNatClampNeg := by omega
      refine va_newaK (atype := .long) hx hb (hts _ G7.2.1) rfl hdg rfl hi.1 rfl (by show n.toNatClampNeg * 8 ≤ _; omega) (by rw [← e0]; exact hrc) (by rw [← e9]; exact hrs) rfl fun H1 cA e1 z1 o1 hAr hNm => ?_
      have hcA : cA = Z.1 1 := Option.some.inj (hNm.symm.trans (hK.2 1 _ (am_tyg G7.2.2.2)).2)
      have hR' : am_R D (am_kl B) Z (M.1 ++ [.inl (1, n.toNatClampNeg, .inr (.inl (fun _ => 0)))], M.2 + n.toNatClampNeg) H1 := by
        refine hR.push ?_ z1 o1
        rw [hcA] at e1
        exact e1
      have K := hV H1 _ ls hR' (am_S_push hS z1 o1) hl (by rw [List.length_append]; simp; omega) (by show n0 ≤ M.2 + n.toNatClampNeg; omega)
      rw [show (F0 m (pc + 2) ls (((.ref M.1.length : Value) :: r).map (am_tr Z.2.1 Z.2.2))) = F0 m (pc + 2) ls (.ref H.size :: r.map (am_tr Z.2.1 Z.2.2)) by rw [hR.2]; rfl] at K
      have K := (show W p l e R s m args below meth c H1 locs ((M.1 ++ [(.inl (1, n.toNatClampNeg, .inr (.inl (fun _ => 0))) : am_O)]).length - k0) (M.2 + n.toNatClampNeg - n0) Q _ from K)
      rw [e0, e9] at K
      exact K
  · cases h
theorem am_t_anewarray {i : Nat} (G : am_Gd P B) (hC : am_X P B D Z p R s m args meth c mi) (hdg : decode (am_cc B mi) pc = .ok (.anewarray i, 3)) (h : am_st P mi (.anewarray i) pc lv st M = some (pc', lv', st', M')) (hrc : M'.1.length - k0 ≤ R.cells) (hrs : M'.2 - n0 ≤ R.slots)
    (hV : am_V p l e R s m args below meth c Q P B D Z mi k0 n0 pc' lv' st' M') : am_V p l e R s m args below meth c Q P B D Z mi k0 n0 pc lv st M := by
  obtain ⟨hx, hb, hml, hr, hlk, hown, hin0, hts, hNw, hK, hKc, -⟩ := hC
  obtain ⟨-, -, -, -, -, -, -, G8, -⟩ := G
  unfold am_st am_nq at h
  dsimp only at h
  split at h
  · rename_i t n r hnq
    cases hi : (!(decide (n < 0)) && decide (n.toNatClampNeg ≤ 1000000)) with
    | false => rw [hi] at h; cases h
    | true =>
      rw [hi] at h
      cases h
      simp only [Bool.and_eq_true, Bool.not_eq_true', decide_eq_false_iff_not, decide_eq_true_eq] at hi
      obtain ⟨t1, t2, q, hq, hqt, w1, w2⟩ := G8.1 _ _ _ hnq
      intro H locs ls hR hS hl hk hn
      have e0 : (M.1 ++ [(.inl (t, n.toNatClampNeg, .inr (.inr (.inr (.inr (fun _ => none))))) : am_O)]).length - k0 = M.1.length - k0 + 1 := by rw [List.length_append]; simp; omega
      have e9 : M.2 + n.toNatClampNeg - n0 = M.2 - n0 + n.toNatClampNeg := by omega
      refine W.anew hx hb hown (hts _ w1) (va_AO.use (hNw _ w2)) rfl hdg rfl hi.1 (by show n.toNatClampNeg * 4 ≤ _; omega) (by rw [← e0]; exact hrc) (by rw [← e9]; exact hrs) fun cA kA comp f1 f2 f3 f4 => ?_
      generalize hH1 : H.push ({ cls := cA, slots := Array.replicate n.toNatClampNeg .null, vm := .none } : Cell) = H1
      have z1 : H1.size = H.size + 1 := by rw [← hH1, Array.size_push]
      have e1 : H1[H.size]? = some (arrV cA n.toNatClampNeg (fun _ => .null)) := by rw [← hH1, Array.getElem?_push_size, ← arrV_new]
      have o1 : ∀ q : Nat, q < H.size → H1[q]? = H[q]? := fun q hq => by rw [← hH1, Array.getElem?_push, if_neg (Nat.ne_of_lt hq)]
      obtain ⟨kA', comp', k1, k2, k3, k4⟩ := (hK.2 t _ (am_tyg hqt)).2
      have hcA : cA = Z.1 t := Option.some.inj (f1.symm.trans k4)
      have hR' : am_R D (am_kl B) Z (M.1 ++ [.inl (t, n.toNatClampNeg, .inr (.inr (.inr (.inr (fun _ => none)))))], M.2 + n.toNatClampNeg) H1 := by
        refine hR.push ?_ z1 o1
        rw [hcA] at e1
        exact e1
      have K := hV H1 _ ls hR' (am_S_push hS z1 o1) hl (by rw [List.length_append]; simp; omega) (by show n0 ≤ M.2 + n.toNatClampNeg; omega)
      rw [show (F0 m (pc + 3) ls (((.ref M.1.length : Value) :: r).map (am_tr Z.2.1 Z.2.2))) = F0 m (pc + 3) ls (.ref H.size :: r.map (am_tr Z.2.1 Z.2.2)) by rw [hR.2]; rfl] at K
      have K := (show W p l e R s m args below meth c H1 locs ((M.1 ++ [(.inl (t, n.toNatClampNeg, .inr (.inr (.inr (.inr (fun _ => none))))) : am_O)]).length - k0) (M.2 + n.toNatClampNeg - n0) Q _ from K)
      rw [e0, e9] at K
      exact K
  · cases h
theorem am_t_checkcast {i : Nat} (G : am_Gd P B) (hcd : am_code P mi pc = some (.checkcast i)) (hC : am_X P B D Z p R s m args meth c mi) (hdg : decode (am_cc B mi) pc = .ok (.checkcast i, 3)) (h : am_st P mi (.checkcast i) pc lv st M = some (pc', lv', st', M'))
    (hV : am_V p l e R s m args below meth c Q P B D Z mi k0 n0 pc' lv' st' M') : am_V p l e R s m args below meth c Q P B D Z mi k0 n0 pc lv st M := by
  obtain ⟨hx, hb, hml, hr, hlk, hown, hin0, hts, hNw, hK, hKc, -⟩ := hC
  obtain ⟨-, -, -, -, -, -, G7, -, G9, -⟩ := G
  unfold am_st at h
  dsimp only at h
  split at h
  · rename_i a r
    split at h
    · rename_i x ho
      cases h
      intro H locs ls hR hS hl hk hn
      exact va_castA hx hb hown (hts _ (G9 _ _ _ hcd)) hR.1 a (am_ws_get ho) (hK.2 0 _ (am_tyg G7.2.2.1)).2 hdg (hV H locs ls hR hS hl hk hn)
    · cases h
  · cases h
end AMH
