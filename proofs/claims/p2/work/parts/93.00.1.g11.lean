noncomputable def r_goFaults_j18_0 (f : t2_F)  : Int32 := if (f 280 43).toInt < (f 280 44).toInt then r_lesser_v ((f 280 15) + (1 : Int32)) (3 : Int32) else (0 : Int32)
noncomputable def r_goFaults_j53_0 (f : t2_F)  : Int32 := if (r_actual_v (fl_row f 280 (upd (f 280) 15 (r_goFaults_j18_0 f)))).toInt = (r_ordered_v (fl_row f 280 (upd (f 280) 15 (r_goFaults_j18_0 f)))).toInt then (0 : Int32) else r_lesser_v ((f 280 16) + (1 : Int32)) (2 : Int32)
noncomputable def r_goFaults_a91 (f : t2_F) : Nat → Int32
  | 0 => (0 : Int32)
  | k91 + 1 => (r_goFaults_a91 f k91) ||| (if (r_isSo_v (fl_row f 280 (upd (upd (upd (f 280) 15 (r_goFaults_j18_0 f)) 16 (r_goFaults_j53_0 f)) 22 ((f 280 22) + (1 : Int32)))) (Int32.ofNat k91)).toInt = 0 then (0 : Int32) else (1 : Int32) <<< ((Int32.ofNat k91) &&& 31))
noncomputable def r_goFaults_b123_j134_0 (f : t2_F) (z : Int32) (a0 : Int32) (k : Nat) : Int32 := if (r_has_v z (Int32.ofNat k)).toInt = 0 then a0 else (if (Int32.ofNat k).toInt < (4 : Int32).toInt then (if (r_has_v (f 280 6) (Int32.ofNat k)).toInt = 0 then a0 + (1 : Int32) else a0) else (if (r_has_v (f 280 6) (Int32.ofNat k)).toInt = 0 then a0 + (1 : Int32) else a0))
noncomputable def r_goFaults_b123_m (f : t2_F) (z : Int32) (a0 : Int32) (k : Nat) : t2_F := if (r_has_v z (Int32.ofNat k)).toInt = 0 then f else (if (Int32.ofNat k).toInt < (4 : Int32).toInt then (if (r_has_v (f 280 6) (Int32.ofNat k)).toInt = 0 then r_writeDown_m (fl_row f 280 (upd (upd (upd (f 280) (311 + k) (r_soBy_v f (Int32.ofNat k))) (23 + k) (f 280 7)) 6 ((f 280 6) ||| ((1 : Int32) <<< ((Int32.ofNat k) &&& 31))))) (Int32.ofNat k) else fl_row f 280 (upd (upd (f 280) (311 + k) (r_soBy_v f (Int32.ofNat k))) (23 + k) (f 280 7))) else (if (r_has_v (f 280 6) (Int32.ofNat k)).toInt = 0 then r_writeDown_m (fl_row f 280 (upd (upd (f 280) (23 + k) (f 280 7)) 6 ((f 280 6) ||| ((1 : Int32) <<< ((Int32.ofNat k) &&& 31))))) (Int32.ofNat k) else fl_row f 280 (upd (f 280) (23 + k) (f 280 7))))
noncomputable def r_goFaults_b123_v (f : t2_F) (z : Int32) (a0 : Int32) (k : Nat) : Int32 := r_goFaults_b123_j134_0 f z a0 k
theorem r_goFaults_b123_fr {f : t2_F} {z : Int32} {a0 : Int32} {k : Nat} {p : Nat} (e280 : p ≠ 280) : r_goFaults_b123_m f z a0 k p = f p := by
  unfold r_goFaults_b123_m
  split
  · rfl
  · split
    · split
      · rw [r_writeDown_fr e280, fl_row_ne e280]
      · rw [fl_row_ne e280]
    · split
      · rw [r_writeDown_fr e280, fl_row_ne e280]
      · rw [fl_row_ne e280]
theorem r_goFaults_b123_w {f : t2_F} {z : Int32} {a0 : Int32} {k : Nat} {w : Nat} (hkb : k < 11) (hb : 0 ≤ (f 280 20).toInt ∧ (f 280 20).toInt ≤ 24) (hw : w ≠ 6 ∧ w ≠ 20 ∧ (w < 23 ∨ 34 ≤ w) ∧ (w < 167 ∨ 217 ≤ w) ∧ (w < 311 ∨ 315 ≤ w)) : r_goFaults_b123_m f z a0 k 280 w = f 280 w := by
  have n6 : w ≠ 6 := hw.1
  have nk : w ≠ 23 + k := by omega
  have n20 : w ≠ 20 ∧ (w < 167 ∨ 217 ≤ w) := ⟨hw.2.1, hw.2.2.2.1⟩
  have k6 : 20 ≠ 6 := by decide
  have kk : 20 ≠ 23 + k := by omega
  have kl : 20 ≠ 311 + k := by omega
  have c4 : (Int32.ofNat k).toInt < (4 : Int32).toInt → w ≠ 311 + k := by
    have c4 : (4 : Int32).toInt = 4 := by decide +kernel
    have e2 : (Int32.ofNat k).toInt = (k : Int) := at_ofN (by omega)
    intro h
    rw [c4, e2] at h
    omega
  unfold r_goFaults_b123_m
  split
  · rfl
  · split
    · rename_i h4
      have nl := c4 h4
      split
      · rw [r_writeDown_w (w := w) (by simp only [fl_row_self, upd_ne k6, upd_ne kk, upd_ne kl]; exact hb) n20, fl_row_self, upd_ne n6, upd_ne nk, upd_ne nl]
      · rw [fl_row_self, upd_ne nk, upd_ne nl]
    · split
      · rw [r_writeDown_w (w := w) (by simp only [fl_row_self, upd_ne k6, upd_ne kk]; exact hb) n20, fl_row_self, upd_ne n6, upd_ne nk]
      · rw [fl_row_self, upd_ne nk]
theorem r_goFaults_b123_q {L : Nat} {xs : Nat → Int32} {f : t2_F} {l : t2_L} {Q : Option fl_V → fl_M → Prop} {z : Int32} {a0 : Int32} {k : Nat} {n : Nat} (hkn : k < n) (h11 : n ≤ 11) (hn : 0 ≤ (f 280 2).toInt ∧ (f 280 2).toInt ≤ 16) (hr : t2_RS f) (hk : ∀ C : Nat, (C : Int) < (f 280 2).toInt → t2_ck f C) (hb : 0 ≤ (f 280 20).toInt ∧ (f 280 20).toInt ≤ 24) (hS : fl_Tq (pw_P L xs) 230 123 [some (.inr (.inr (.inl (76, 277)))), some (.inl z), some (.inl (r_goFaults_b123_v f z a0 k)), some (.inl (Int32.ofNat (k + 1)))] [] (r_goFaults_b123_m f z a0 k, l) Q) : fl_Tq (pw_P L xs) 230 123 [some (.inr (.inr (.inl (76, 277)))), some (.inl z), some (.inl a0), some (.inl (Int32.ofNat k))] [] (f, l) Q := by
  refine fl_Tq.stp (pc' := 124) (lv' := [some (.inr (.inr (.inl (76, 277)))), some (.inl z), some (.inl a0), some (.inl (Int32.ofNat k))]) (st' := [.inl (Int32.ofNat k)]) (m' := (f, l)) rfl rfl (fl_bo rfl) rfl ?_
  refine fl_Tq.cB (c := (11 : Int32)) rfl (by decide +kernel) (fl_bo rfl) ?_
  refine fl_Tq.jf rfl (fl_bo rfl) (c2_ge_f (by have c11 : (11 : Int32).toInt = 11 := (by decide +kernel); have e2 : (Int32.ofNat k).toInt = ((k : Nat) : Int) := at_ofN (by omega); omega)) rfl ?_
  refine fl_Tq.stp (pc' := 130) (lv' := [some (.inr (.inr (.inl (76, 277)))), some (.inl z), some (.inl a0), some (.inl (Int32.ofNat k))]) (st' := [.inl z]) (m' := (f, l)) rfl rfl (fl_bo rfl) rfl ?_
  refine fl_Tq.stp (pc' := 131) (lv' := [some (.inr (.inr (.inl (76, 277)))), some (.inl z), some (.inl a0), some (.inl (Int32.ofNat k))]) (st' := [.inl (Int32.ofNat k), .inl z]) (m' := (f, l)) rfl rfl (fl_bo rfl) rfl ?_
  refine fl_Tq.cal rfl rfl (fl_bo rfl) rfl ?_
  refine r_has_q  ?_
  show fl_Tq _ 230 134 [some (.inr (.inr (.inl (76, 277)))), some (.inl z), some (.inl a0), some (.inl (Int32.ofNat k))] [.inl (r_has_v z (Int32.ofNat k))] (f, l) _
  have hj89 : fl_Tq (pw_P L xs) 230 214 [some (.inr (.inr (.inl (76, 277)))), some (.inl z), some (.inl (r_goFaults_b123_j134_0 f z a0 k)), some (.inl (Int32.ofNat k))] [] (if (r_has_v z (Int32.ofNat k)).toInt = 0 then f else (if (Int32.ofNat k).toInt < (4 : Int32).toInt then (if (r_has_v (f 280 6) (Int32.ofNat k)).toInt = 0 then r_writeDown_m (fl_row f 280 (upd (upd (upd (f 280) (311 + k) (r_soBy_v f (Int32.ofNat k))) (23 + k) (f 280 7)) 6 ((f 280 6) ||| ((1 : Int32) <<< ((Int32.ofNat k) &&& 31))))) (Int32.ofNat k) else fl_row f 280 (upd (upd (f 280) (311 + k) (r_soBy_v f (Int32.ofNat k))) (23 + k) (f 280 7))) else (if (r_has_v (f 280 6) (Int32.ofNat k)).toInt = 0 then r_writeDown_m (fl_row f 280 (upd (upd (f 280) (23 + k) (f 280 7)) 6 ((f 280 6) ||| ((1 : Int32) <<< ((Int32.ofNat k) &&& 31))))) (Int32.ofNat k) else fl_row f 280 (upd (f 280) (23 + k) (f 280 7)))), l) Q → fl_Tq (pw_P L xs) 230 134 [some (.inr (.inr (.inl (76, 277)))), some (.inl z), some (.inl a0), some (.inl (Int32.ofNat k))] [.inl (r_has_v z (Int32.ofNat k))] (f, l) Q := by
    intro hJ
    by_cases h4 : (r_has_v z (Int32.ofNat k)).toInt = 0
    · refine fl_Tq.zf rfl (fl_bo rfl) (c1_ne_f h4) rfl ?_
      refine fl_Tq.stp (pc' := 214) (lv' := [some (.inr (.inr (.inl (76, 277)))), some (.inl z), some (.inl a0), some (.inl (Int32.ofNat k))]) (st' := []) (m' := (f, l)) rfl rfl (fl_bo rfl) rfl ?_
      have e0 : (r_goFaults_b123_j134_0 f z a0 k) = a0 := by simp only [r_goFaults_b123_j134_0, if_pos h4]
      have e1 : (if (r_has_v z (Int32.ofNat k)).toInt = 0 then f else (if (Int32.ofNat k).toInt < (4 : Int32).toInt then (if (r_has_v (f 280 6) (Int32.ofNat k)).toInt = 0 then r_writeDown_m (fl_row f 280 (upd (upd (upd (f 280) (311 + k) (r_soBy_v f (Int32.ofNat k))) (23 + k) (f 280 7)) 6 ((f 280 6) ||| ((1 : Int32) <<< ((Int32.ofNat k) &&& 31))))) (Int32.ofNat k) else fl_row f 280 (upd (upd (f 280) (311 + k) (r_soBy_v f (Int32.ofNat k))) (23 + k) (f 280 7))) else (if (r_has_v (f 280 6) (Int32.ofNat k)).toInt = 0 then r_writeDown_m (fl_row f 280 (upd (upd (f 280) (23 + k) (f 280 7)) 6 ((f 280 6) ||| ((1 : Int32) <<< ((Int32.ofNat k) &&& 31))))) (Int32.ofNat k) else fl_row f 280 (upd (f 280) (23 + k) (f 280 7))))) = f := by simp only [if_pos h4]
      rw [e0, e1] at hJ
      exact hJ
    · refine fl_Tq.zt rfl (fl_bo rfl) (c1_ne_t h4) rfl ?_
      refine fl_Tq.stp (pc' := 141) (lv' := [some (.inr (.inr (.inl (76, 277)))), some (.inl z), some (.inl a0), some (.inl (Int32.ofNat k))]) (st' := [.inl (Int32.ofNat k)]) (m' := (f, l)) rfl rfl (fl_bo rfl) rfl ?_
      refine fl_Tq.cI (c := (4 : Int32)) rfl (by decide +kernel) (fl_bo rfl) ?_
      by_cases h5 : (Int32.ofNat k).toInt < (4 : Int32).toInt
      · refine fl_Tq.jf rfl (fl_bo rfl) (c2_ge_f h5) rfl ?_
        refine fl_Tq.stp (pc' := 146) (lv' := [some (.inr (.inr (.inl (76, 277)))), some (.inl z), some (.inl a0), some (.inl (Int32.ofNat k))]) (st' := [.inr (.inr (.inl (76, 277)))]) (m' := (f, l)) rfl rfl (fl_bo rfl) rfl ?_
        refine fl_Tq.stp (pc' := 149) (lv' := [some (.inr (.inr (.inl (76, 277)))), some (.inl z), some (.inl a0), some (.inl (Int32.ofNat k))]) (st' := [.inr (.inr (.inl (79, 280)))]) (m' := (f, l)) rfl rfl (fl_bo rfl) rfl ?_
        refine fl_Tq.cS (c := (311 : Int32)) rfl (by decide +kernel) (fl_bo rfl) ?_
        refine fl_Tq.stp (pc' := 153) (lv' := [some (.inr (.inr (.inl (76, 277)))), some (.inl z), some (.inl a0), some (.inl (Int32.ofNat k))]) (st' := [.inl (Int32.ofNat k), .inl (311 : Int32), .inr (.inr (.inl (79, 280)))]) (m' := (f, l)) rfl rfl (fl_bo rfl) rfl ?_
        refine fl_Tq.stp (pc' := 154) (lv' := [some (.inr (.inr (.inl (76, 277)))), some (.inl z), some (.inl a0), some (.inl (Int32.ofNat k))]) (st' := [.inl ((311 : Int32) + (Int32.ofNat k)), .inr (.inr (.inl (79, 280)))]) (m' := (f, l)) rfl rfl (fl_bo rfl) rfl ?_
        refine fl_Tq.stp (pc' := 155) (lv' := [some (.inr (.inr (.inl (76, 277)))), some (.inl z), some (.inl a0), some (.inl (Int32.ofNat k))]) (st' := [.inr (.inr (.inl (76, 277))), .inl ((311 : Int32) + (Int32.ofNat k)), .inr (.inr (.inl (79, 280)))]) (m' := (f, l)) rfl rfl (fl_bo rfl) rfl ?_
        refine fl_Tq.stp (pc' := 156) (lv' := [some (.inr (.inr (.inl (76, 277)))), some (.inl z), some (.inl a0), some (.inl (Int32.ofNat k))]) (st' := [.inl (Int32.ofNat k), .inr (.inr (.inl (76, 277))), .inl ((311 : Int32) + (Int32.ofNat k)), .inr (.inr (.inl (79, 280)))]) (m' := (f, l)) rfl rfl (fl_bo rfl) rfl ?_
        refine fl_Tq.cal rfl rfl (fl_bo rfl) rfl ?_
        refine r_soBy_q hn hr hk ?_
        show fl_Tq _ 230 159 [some (.inr (.inr (.inl (76, 277)))), some (.inl z), some (.inl a0), some (.inl (Int32.ofNat k))] [.inl (r_soBy_v f (Int32.ofNat k)), .inl ((311 : Int32) + (Int32.ofNat k)), .inr (.inr (.inl (79, 280)))] (f, l) _
        refine fl_Tq.svV (p := 280) (τ := 79) (n := 29780) (z := (0, 0, 0)) (k := 311 + k) (m' := (fl_row f 280 (upd (f 280) (311 + k) (r_soBy_v f (Int32.ofNat k))), l)) rfl (fl_bo rfl) rfl (t2_ia (by decide +kernel) (at_ofN (by omega)) (by omega)) (by omega) (t2_upn rfl) ?_
        refine fl_Tq.stp (pc' := 161) (lv' := [some (.inr (.inr (.inl (76, 277)))), some (.inl z), some (.inl a0), some (.inl (Int32.ofNat k))]) (st' := [.inr (.inr (.inl (76, 277)))]) (m' := (fl_row f 280 (upd (f 280) (311 + k) (r_soBy_v f (Int32.ofNat k))), l)) rfl rfl (fl_bo rfl) rfl ?_
        refine fl_Tq.stp (pc' := 164) (lv' := [some (.inr (.inr (.inl (76, 277)))), some (.inl z), some (.inl a0), some (.inl (Int32.ofNat k))]) (st' := [.inr (.inr (.inl (79, 280)))]) (m' := (fl_row f 280 (upd (f 280) (311 + k) (r_soBy_v f (Int32.ofNat k))), l)) rfl rfl (fl_bo rfl) rfl ?_
        refine fl_Tq.cB (c := (23 : Int32)) rfl (by decide +kernel) (fl_bo rfl) ?_
        refine fl_Tq.stp (pc' := 167) (lv' := [some (.inr (.inr (.inl (76, 277)))), some (.inl z), some (.inl a0), some (.inl (Int32.ofNat k))]) (st' := [.inl (Int32.ofNat k), .inl (23 : Int32), .inr (.inr (.inl (79, 280)))]) (m' := (fl_row f 280 (upd (f 280) (311 + k) (r_soBy_v f (Int32.ofNat k))), l)) rfl rfl (fl_bo rfl) rfl ?_
        refine fl_Tq.stp (pc' := 168) (lv' := [some (.inr (.inr (.inl (76, 277)))), some (.inl z), some (.inl a0), some (.inl (Int32.ofNat k))]) (st' := [.inl ((23 : Int32) + (Int32.ofNat k)), .inr (.inr (.inl (79, 280)))]) (m' := (fl_row f 280 (upd (f 280) (311 + k) (r_soBy_v f (Int32.ofNat k))), l)) rfl rfl (fl_bo rfl) rfl ?_
        refine fl_Tq.stp (pc' := 169) (lv' := [some (.inr (.inr (.inl (76, 277)))), some (.inl z), some (.inl a0), some (.inl (Int32.ofNat k))]) (st' := [.inr (.inr (.inl (76, 277))), .inl ((23 : Int32) + (Int32.ofNat k)), .inr (.inr (.inl (79, 280)))]) (m' := (fl_row f 280 (upd (f 280) (311 + k) (r_soBy_v f (Int32.ofNat k))), l)) rfl rfl (fl_bo rfl) rfl ?_
        refine fl_Tq.stp (pc' := 172) (lv' := [some (.inr (.inr (.inl (76, 277)))), some (.inl z), some (.inl a0), some (.inl (Int32.ofNat k))]) (st' := [.inr (.inr (.inl (79, 280))), .inl ((23 : Int32) + (Int32.ofNat k)), .inr (.inr (.inl (79, 280)))]) (m' := (fl_row f 280 (upd (f 280) (311 + k) (r_soBy_v f (Int32.ofNat k))), l)) rfl rfl (fl_bo rfl) rfl ?_
        refine fl_Tq.cB (c := (7 : Int32)) rfl (by decide +kernel) (fl_bo rfl) ?_
        refine fl_Tq.ldV (p := 280) (τ := 79) (n := 29780) (z := (0, 0, 0)) (k := 7) (v := f 280 7) rfl (fl_bo rfl) rfl (by decide +kernel) (by decide) (by simp only [fl_row_self, upd_ne (by omega : 7 ≠ 311 + k)]) ?_
        refine fl_Tq.svV (p := 280) (τ := 79) (n := 29780) (z := (0, 0, 0)) (k := 23 + k) (m' := (fl_row f 280 (upd (upd (f 280) (311 + k) (r_soBy_v f (Int32.ofNat k))) (23 + k) (f 280 7)), l)) rfl (fl_bo rfl) rfl (t2_ia (by decide +kernel) (at_ofN (by omega)) (by omega)) (by omega) (t2_upr) ?_
        refine fl_Tq.stp (pc' := 177) (lv' := [some (.inr (.inr (.inl (76, 277)))), some (.inl z), some (.inl a0), some (.inl (Int32.ofNat k))]) (st' := [.inr (.inr (.inl (76, 277)))]) (m' := (fl_row f 280 (upd (upd (f 280) (311 + k) (r_soBy_v f (Int32.ofNat k))) (23 + k) (f 280 7)), l)) rfl rfl (fl_bo rfl) rfl ?_
        refine fl_Tq.stp (pc' := 180) (lv' := [some (.inr (.inr (.inl (76, 277)))), some (.inl z), some (.inl a0), some (.inl (Int32.ofNat k))]) (st' := [.inr (.inr (.inl (79, 280)))]) (m' := (fl_row f 280 (upd (upd (f 280) (311 + k) (r_soBy_v f (Int32.ofNat k))) (23 + k) (f 280 7)), l)) rfl rfl (fl_bo rfl) rfl ?_
        refine fl_Tq.cB (c := (6 : Int32)) rfl (by decide +kernel) (fl_bo rfl) ?_
        refine fl_Tq.ldV (p := 280) (τ := 79) (n := 29780) (z := (0, 0, 0)) (k := 6) (v := f 280 6) rfl (fl_bo rfl) rfl (by decide +kernel) (by decide) (by simp only [fl_row_self, upd_ne (by omega : 6 ≠ 23 + k), upd_ne (by omega : 6 ≠ 311 + k)]) ?_
        refine fl_Tq.stp (pc' := 184) (lv' := [some (.inr (.inr (.inl (76, 277)))), some (.inl z), some (.inl a0), some (.inl (Int32.ofNat k))]) (st' := [.inl (Int32.ofNat k), .inl (f 280 6)]) (m' := (fl_row f 280 (upd (upd (f 280) (311 + k) (r_soBy_v f (Int32.ofNat k))) (23 + k) (f 280 7)), l)) rfl rfl (fl_bo rfl) rfl ?_
        refine fl_Tq.cal rfl rfl (fl_bo rfl) rfl ?_
        refine r_has_q  ?_
        show fl_Tq _ 230 187 [some (.inr (.inr (.inl (76, 277)))), some (.inl z), some (.inl a0), some (.inl (Int32.ofNat k))] [.inl (r_has_v (f 280 6) (Int32.ofNat k))] (fl_row f 280 (upd (upd (f 280) (311 + k) (r_soBy_v f (Int32.ofNat k))) (23 + k) (f 280 7)), l) _
        by_cases h6 : (r_has_v (f 280 6) (Int32.ofNat k)).toInt = 0
        · refine fl_Tq.zt rfl (fl_bo rfl) (c1_eq_t h6) rfl ?_
          refine fl_Tq.stp (pc' := 194) (lv' := [some (.inr (.inr (.inl (76, 277)))), some (.inl z), some (.inl a0), some (.inl (Int32.ofNat k))]) (st' := [.inr (.inr (.inl (76, 277)))]) (m' := (fl_row f 280 (upd (upd (f 280) (311 + k) (r_soBy_v f (Int32.ofNat k))) (23 + k) (f 280 7)), l)) rfl rfl (fl_bo rfl) rfl ?_
          refine fl_Tq.stp (pc' := 197) (lv' := [some (.inr (.inr (.inl (76, 277)))), some (.inl z), some (.inl a0), some (.inl (Int32.ofNat k))]) (st' := [.inr (.inr (.inl (79, 280)))]) (m' := (fl_row f 280 (upd (upd (f 280) (311 + k) (r_soBy_v f (Int32.ofNat k))) (23 + k) (f 280 7)), l)) rfl rfl (fl_bo rfl) rfl ?_
          refine fl_Tq.cB (c := (6 : Int32)) rfl (by decide +kernel) (fl_bo rfl) ?_
          refine fl_Tq.stp (pc' := 200) (lv' := [some (.inr (.inr (.inl (76, 277)))), some (.inl z), some (.inl a0), some (.inl (Int32.ofNat k))]) (st' := [.inl (6 : Int32), .inr (.inr (.inl (79, 280))), .inl (6 : Int32), .inr (.inr (.inl (79, 280)))]) (m' := (fl_row f 280 (upd (upd (f 280) (311 + k) (r_soBy_v f (Int32.ofNat k))) (23 + k) (f 280 7)), l)) rfl rfl (fl_bo rfl) rfl ?_
          refine fl_Tq.ldV (p := 280) (τ := 79) (n := 29780) (z := (0, 0, 0)) (k := 6) (v := f 280 6) rfl (fl_bo rfl) rfl (by decide +kernel) (by decide) (by simp only [fl_row_self, upd_ne (by omega : 6 ≠ 23 + k), upd_ne (by omega : 6 ≠ 311 + k)]) ?_
          refine fl_Tq.cI (c := (1 : Int32)) rfl (by decide +kernel) (fl_bo rfl) ?_
          refine fl_Tq.stp (pc' := 203) (lv' := [some (.inr (.inr (.inl (76, 277)))), some (.inl z), some (.inl a0), some (.inl (Int32.ofNat k))]) (st' := [.inl (Int32.ofNat k), .inl (1 : Int32), .inl (f 280 6), .inl (6 : Int32), .inr (.inr (.inl (79, 280)))]) (m' := (fl_row f 280 (upd (upd (f 280) (311 + k) (r_soBy_v f (Int32.ofNat k))) (23 + k) (f 280 7)), l)) rfl rfl (fl_bo rfl) rfl ?_
          refine fl_Tq.stp (pc' := 204) (lv' := [some (.inr (.inr (.inl (76, 277)))), some (.inl z), some (.inl a0), some (.inl (Int32.ofNat k))]) (st' := [.inl ((1 : Int32) <<< ((Int32.ofNat k) &&& 31)), .inl (f 280 6), .inl (6 : Int32), .inr (.inr (.inl (79, 280)))]) (m' := (fl_row f 280 (upd (upd (f 280) (311 + k) (r_soBy_v f (Int32.ofNat k))) (23 + k) (f 280 7)), l)) rfl rfl (fl_bo rfl) rfl ?_
          refine fl_Tq.stp (pc' := 205) (lv' := [some (.inr (.inr (.inl (76, 277)))), some (.inl z), some (.inl a0), some (.inl (Int32.ofNat k))]) (st' := [.inl ((f 280 6) ||| ((1 : Int32) <<< ((Int32.ofNat k) &&& 31))), .inl (6 : Int32), .inr (.inr (.inl (79, 280)))]) (m' := (fl_row f 280 (upd (upd (f 280) (311 + k) (r_soBy_v f (Int32.ofNat k))) (23 + k) (f 280 7)), l)) rfl rfl (fl_bo rfl) rfl ?_
          refine fl_Tq.svV (p := 280) (τ := 79) (n := 29780) (z := (0, 0, 0)) (k := 6) (m' := (fl_row f 280 (upd (upd (upd (f 280) (311 + k) (r_soBy_v f (Int32.ofNat k))) (23 + k) (f 280 7)) 6 ((f 280 6) ||| ((1 : Int32) <<< ((Int32.ofNat k) &&& 31)))), l)) rfl (fl_bo rfl) rfl (by decide +kernel) (by decide) (t2_upr) ?_
          refine fl_Tq.stp (pc' := 207) (lv' := [some (.inr (.inr (.inl (76, 277)))), some (.inl z), some (.inl a0), some (.inl (Int32.ofNat k))]) (st' := [.inr (.inr (.inl (76, 277)))]) (m' := (fl_row f 280 (upd (upd (upd (f 280) (311 + k) (r_soBy_v f (Int32.ofNat k))) (23 + k) (f 280 7)) 6 ((f 280 6) ||| ((1 : Int32) <<< ((Int32.ofNat k) &&& 31)))), l)) rfl rfl (fl_bo rfl) rfl ?_
          refine fl_Tq.stp (pc' := 208) (lv' := [some (.inr (.inr (.inl (76, 277)))), some (.inl z), some (.inl a0), some (.inl (Int32.ofNat k))]) (st' := [.inl (Int32.ofNat k), .inr (.inr (.inl (76, 277)))]) (m' := (fl_row f 280 (upd (upd (upd (f 280) (311 + k) (r_soBy_v f (Int32.ofNat k))) (23 + k) (f 280 7)) 6 ((f 280 6) ||| ((1 : Int32) <<< ((Int32.ofNat k) &&& 31)))), l)) rfl rfl (fl_bo rfl) rfl ?_
          refine fl_Tq.cal rfl rfl (fl_bo rfl) rfl ?_
          refine r_writeDown_q (by simp only [fl_row_self, upd_ne (by decide : 20 ≠ 6), upd_ne (by omega : 20 ≠ 23 + k), upd_ne (by omega : 20 ≠ 311 + k)]; exact hb) ?_
          show fl_Tq _ 230 211 [some (.inr (.inr (.inl (76, 277)))), some (.inl z), some (.inl a0), some (.inl (Int32.ofNat k))] [] (r_writeDown_m (fl_row f 280 (upd (upd (upd (f 280) (311 + k) (r_soBy_v f (Int32.ofNat k))) (23 + k) (f 280 7)) 6 ((f 280 6) ||| ((1 : Int32) <<< ((Int32.ofNat k) &&& 31))))) (Int32.ofNat k), l) _
          refine fl_Tq.stp (pc' := 214) (lv' := [some (.inr (.inr (.inl (76, 277)))), some (.inl z), some (.inl (a0 + (1 : Int32))), some (.inl (Int32.ofNat k))]) (st' := []) (m' := (r_writeDown_m (fl_row f 280 (upd (upd (upd (f 280) (311 + k) (r_soBy_v f (Int32.ofNat k))) (23 + k) (f 280 7)) 6 ((f 280 6) ||| ((1 : Int32) <<< ((Int32.ofNat k) &&& 31))))) (Int32.ofNat k), l)) rfl rfl (fl_bo rfl) rfl ?_
          have e0 : (r_goFaults_b123_j134_0 f z a0 k) = a0 + (1 : Int32) := by simp only [r_goFaults_b123_j134_0, if_neg h4, if_pos h5, if_pos h6]
          have e1 : (if (r_has_v z (Int32.ofNat k)).toInt = 0 then f else (if (Int32.ofNat k).toInt < (4 : Int32).toInt then (if (r_has_v (f 280 6) (Int32.ofNat k)).toInt = 0 then r_writeDown_m (fl_row f 280 (upd (upd (upd (f 280) (311 + k) (r_soBy_v f (Int32.ofNat k))) (23 + k) (f 280 7)) 6 ((f 280 6) ||| ((1 : Int32) <<< ((Int32.ofNat k) &&& 31))))) (Int32.ofNat k) else fl_row f 280 (upd (upd (f 280) (311 + k) (r_soBy_v f (Int32.ofNat k))) (23 + k) (f 280 7))) else (if (r_has_v (f 280 6) (Int32.ofNat k)).toInt = 0 then r_writeDown_m (fl_row f 280 (upd (upd (f 280) (23 + k) (f 280 7)) 6 ((f 280 6) ||| ((1 : Int32) <<< ((Int32.ofNat k) &&& 31))))) (Int32.ofNat k) else fl_row f 280 (upd (f 280) (23 + k) (f 280 7))))) = r_writeDown_m (fl_row f 280 (upd (upd (upd (f 280) (311 + k) (r_soBy_v f (Int32.ofNat k))) (23 + k) (f 280 7)) 6 ((f 280 6) ||| ((1 : Int32) <<< ((Int32.ofNat k) &&& 31))))) (Int32.ofNat k) := by simp only [if_neg h4, if_pos h5, if_pos h6]
          rw [e0, e1] at hJ
          exact hJ
        · refine fl_Tq.zf rfl (fl_bo rfl) (c1_eq_f h6) rfl ?_
          refine fl_Tq.stp (pc' := 214) (lv' := [some (.inr (.inr (.inl (76, 277)))), some (.inl z), some (.inl a0), some (.inl (Int32.ofNat k))]) (st' := []) (m' := (fl_row f 280 (upd (upd (f 280) (311 + k) (r_soBy_v f (Int32.ofNat k))) (23 + k) (f 280 7)), l)) rfl rfl (fl_bo rfl) rfl ?_
          have e0 : (r_goFaults_b123_j134_0 f z a0 k) = a0 := by simp only [r_goFaults_b123_j134_0, if_neg h4, if_pos h5, if_neg h6]
          have e1 : (if (r_has_v z (Int32.ofNat k)).toInt = 0 then f else (if (Int32.ofNat k).toInt < (4 : Int32).toInt then (if (r_has_v (f 280 6) (Int32.ofNat k)).toInt = 0 then r_writeDown_m (fl_row f 280 (upd (upd (upd (f 280) (311 + k) (r_soBy_v f (Int32.ofNat k))) (23 + k) (f 280 7)) 6 ((f 280 6) ||| ((1 : Int32) <<< ((Int32.ofNat k) &&& 31))))) (Int32.ofNat k) else fl_row f 280 (upd (upd (f 280) (311 + k) (r_soBy_v f (Int32.ofNat k))) (23 + k) (f 280 7))) else (if (r_has_v (f 280 6) (Int32.ofNat k)).toInt = 0 then r_writeDown_m (fl_row f 280 (upd (upd (f 280) (23 + k) (f 280 7)) 6 ((f 280 6) ||| ((1 : Int32) <<< ((Int32.ofNat k) &&& 31))))) (Int32.ofNat k) else fl_row f 280 (upd (f 280) (23 + k) (f 280 7))))) = fl_row f 280 (upd (upd (f 280) (311 + k) (r_soBy_v f (Int32.ofNat k))) (23 + k) (f 280 7)) := by simp only [if_neg h4, if_pos h5, if_neg h6]
          rw [e0, e1] at hJ
          exact hJ
      · refine fl_Tq.jt rfl (fl_bo rfl) (c2_ge_t h5) rfl ?_
        refine fl_Tq.stp (pc' := 161) (lv' := [some (.inr (.inr (.inl (76, 277)))), some (.inl z), some (.inl a0), some (.inl (Int32.ofNat k))]) (st' := [.inr (.inr (.inl (76, 277)))]) (m' := (f, l)) rfl rfl (fl_bo rfl) rfl ?_
        refine fl_Tq.stp (pc' := 164) (lv' := [some (.inr (.inr (.inl (76, 277)))), some (.inl z), some (.inl a0), some (.inl (Int32.ofNat k))]) (st' := [.inr (.inr (.inl (79, 280)))]) (m' := (f, l)) rfl rfl (fl_bo rfl) rfl ?_
        refine fl_Tq.cB (c := (23 : Int32)) rfl (by decide +kernel) (fl_bo rfl) ?_
        refine fl_Tq.stp (pc' := 167) (lv' := [some (.inr (.inr (.inl (76, 277)))), some (.inl z), some (.inl a0), some (.inl (Int32.ofNat k))]) (st' := [.inl (Int32.ofNat k), .inl (23 : Int32), .inr (.inr (.inl (79, 280)))]) (m' := (f, l)) rfl rfl (fl_bo rfl) rfl ?_
        refine fl_Tq.stp (pc' := 168) (lv' := [some (.inr (.inr (.inl (76, 277)))), some (.inl z), some (.inl a0), some (.inl (Int32.ofNat k))]) (st' := [.inl ((23 : Int32) + (Int32.ofNat k)), .inr (.inr (.inl (79, 280)))]) (m' := (f, l)) rfl rfl (fl_bo rfl) rfl ?_
        refine fl_Tq.stp (pc' := 169) (lv' := [some (.inr (.inr (.inl (76, 277)))), some (.inl z), some (.inl a0), some (.inl (Int32.ofNat k))]) (st' := [.inr (.inr (.inl (76, 277))), .inl ((23 : Int32) + (Int32.ofNat k)), .inr (.inr (.inl (79, 280)))]) (m' := (f, l)) rfl rfl (fl_bo rfl) rfl ?_
        refine fl_Tq.stp (pc' := 172) (lv' := [some (.inr (.inr (.inl (76, 277)))), some (.inl z), some (.inl a0), some (.inl (Int32.ofNat k))]) (st' := [.inr (.inr (.inl (79, 280))), .inl ((23 : Int32) + (Int32.ofNat k)), .inr (.inr (.inl (79, 280)))]) (m' := (f, l)) rfl rfl (fl_bo rfl) rfl ?_
        refine fl_Tq.cB (c := (7 : Int32)) rfl (by decide +kernel) (fl_bo rfl) ?_
        refine fl_Tq.ldV (p := 280) (τ := 79) (n := 29780) (z := (0, 0, 0)) (k := 7) (v := f 280 7) rfl (fl_bo rfl) rfl (by decide +kernel) (by decide) rfl ?_
        refine fl_Tq.svV (p := 280) (τ := 79) (n := 29780) (z := (0, 0, 0)) (k := 23 + k) (m' := (fl_row f 280 (upd (f 280) (23 + k) (f 280 7)), l)) rfl (fl_bo rfl) rfl (t2_ia (by decide +kernel) (at_ofN (by omega)) (by omega)) (by omega) (t2_upn rfl) ?_
        refine fl_Tq.stp (pc' := 177) (lv' := [some (.inr (.inr (.inl (76, 277)))), some (.inl z), some (.inl a0), some (.inl (Int32.ofNat k))]) (st' := [.inr (.inr (.inl (76, 277)))]) (m' := (fl_row f 280 (upd (f 280) (23 + k) (f 280 7)), l)) rfl rfl (fl_bo rfl) rfl ?_
        refine fl_Tq.stp (pc' := 180) (lv' := [some (.inr (.inr (.inl (76, 277)))), some (.inl z), some (.inl a0), some (.inl (Int32.ofNat k))]) (st' := [.inr (.inr (.inl (79, 280)))]) (m' := (fl_row f 280 (upd (f 280) (23 + k) (f 280 7)), l)) rfl rfl (fl_bo rfl) rfl ?_
        refine fl_Tq.cB (c := (6 : Int32)) rfl (by decide +kernel) (fl_bo rfl) ?_
        refine fl_Tq.ldV (p := 280) (τ := 79) (n := 29780) (z := (0, 0, 0)) (k := 6) (v := f 280 6) rfl (fl_bo rfl) rfl (by decide +kernel) (by decide) (by simp only [fl_row_self, upd_ne (by omega : 6 ≠ 23 + k)]) ?_
        refine fl_Tq.stp (pc' := 184) (lv' := [some (.inr (.inr (.inl (76, 277)))), some (.inl z), some (.inl a0), some (.inl (Int32.ofNat k))]) (st' := [.inl (Int32.ofNat k), .inl (f 280 6)]) (m' := (fl_row f 280 (upd (f 280) (23 + k) (f 280 7)), l)) rfl rfl (fl_bo rfl) rfl ?_
        refine fl_Tq.cal rfl rfl (fl_bo rfl) rfl ?_
        refine r_has_q  ?_
        show fl_Tq _ 230 187 [some (.inr (.inr (.inl (76, 277)))), some (.inl z), some (.inl a0), some (.inl (Int32.ofNat k))] [.inl (r_has_v (f 280 6) (Int32.ofNat k))] (fl_row f 280 (upd (f 280) (23 + k) (f 280 7)), l) _
        by_cases h7 : (r_has_v (f 280 6) (Int32.ofNat k)).toInt = 0
        · refine fl_Tq.zt rfl (fl_bo rfl) (c1_eq_t h7) rfl ?_
          refine fl_Tq.stp (pc' := 194) (lv' := [some (.inr (.inr (.inl (76, 277)))), some (.inl z), some (.inl a0), some (.inl (Int32.ofNat k))]) (st' := [.inr (.inr (.inl (76, 277)))]) (m' := (fl_row f 280 (upd (f 280) (23 + k) (f 280 7)), l)) rfl rfl (fl_bo rfl) rfl ?_
          refine fl_Tq.stp (pc' := 197) (lv' := [some (.inr (.inr (.inl (76, 277)))), some (.inl z), some (.inl a0), some (.inl (Int32.ofNat k))]) (st' := [.inr (.inr (.inl (79, 280)))]) (m' := (fl_row f 280 (upd (f 280) (23 + k) (f 280 7)), l)) rfl rfl (fl_bo rfl) rfl ?_
          refine fl_Tq.cB (c := (6 : Int32)) rfl (by decide +kernel) (fl_bo rfl) ?_
          refine fl_Tq.stp (pc' := 200) (lv' := [some (.inr (.inr (.inl (76, 277)))), some (.inl z), some (.inl a0), some (.inl (Int32.ofNat k))]) (st' := [.inl (6 : Int32), .inr (.inr (.inl (79, 280))), .inl (6 : Int32), .inr (.inr (.inl (79, 280)))]) (m' := (fl_row f 280 (upd (f 280) (23 + k) (f 280 7)), l)) rfl rfl (fl_bo rfl) rfl ?_
          refine fl_Tq.ldV (p := 280) (τ := 79) (n := 29780) (z := (0, 0, 0)) (k := 6) (v := f 280 6) rfl (fl_bo rfl) rfl (by decide +kernel) (by decide) (by simp only [fl_row_self, upd_ne (by omega : 6 ≠ 23 + k)]) ?_
          refine fl_Tq.cI (c := (1 : Int32)) rfl (by decide +kernel) (fl_bo rfl) ?_
          refine fl_Tq.stp (pc' := 203) (lv' := [some (.inr (.inr (.inl (76, 277)))), some (.inl z), some (.inl a0), some (.inl (Int32.ofNat k))]) (st' := [.inl (Int32.ofNat k), .inl (1 : Int32), .inl (f 280 6), .inl (6 : Int32), .inr (.inr (.inl (79, 280)))]) (m' := (fl_row f 280 (upd (f 280) (23 + k) (f 280 7)), l)) rfl rfl (fl_bo rfl) rfl ?_
          refine fl_Tq.stp (pc' := 204) (lv' := [some (.inr (.inr (.inl (76, 277)))), some (.inl z), some (.inl a0), some (.inl (Int32.ofNat k))]) (st' := [.inl ((1 : Int32) <<< ((Int32.ofNat k) &&& 31)), .inl (f 280 6), .inl (6 : Int32), .inr (.inr (.inl (79, 280)))]) (m' := (fl_row f 280 (upd (f 280) (23 + k) (f 280 7)), l)) rfl rfl (fl_bo rfl) rfl ?_
          refine fl_Tq.stp (pc' := 205) (lv' := [some (.inr (.inr (.inl (76, 277)))), some (.inl z), some (.inl a0), some (.inl (Int32.ofNat k))]) (st' := [.inl ((f 280 6) ||| ((1 : Int32) <<< ((Int32.ofNat k) &&& 31))), .inl (6 : Int32), .inr (.inr (.inl (79, 280)))]) (m' := (fl_row f 280 (upd (f 280) (23 + k) (f 280 7)), l)) rfl rfl (fl_bo rfl) rfl ?_
          refine fl_Tq.svV (p := 280) (τ := 79) (n := 29780) (z := (0, 0, 0)) (k := 6) (m' := (fl_row f 280 (upd (upd (f 280) (23 + k) (f 280 7)) 6 ((f 280 6) ||| ((1 : Int32) <<< ((Int32.ofNat k) &&& 31)))), l)) rfl (fl_bo rfl) rfl (by decide +kernel) (by decide) (t2_upr) ?_
          refine fl_Tq.stp (pc' := 207) (lv' := [some (.inr (.inr (.inl (76, 277)))), some (.inl z), some (.inl a0), some (.inl (Int32.ofNat k))]) (st' := [.inr (.inr (.inl (76, 277)))]) (m' := (fl_row f 280 (upd (upd (f 280) (23 + k) (f 280 7)) 6 ((f 280 6) ||| ((1 : Int32) <<< ((Int32.ofNat k) &&& 31)))), l)) rfl rfl (fl_bo rfl) rfl ?_
          refine fl_Tq.stp (pc' := 208) (lv' := [some (.inr (.inr (.inl (76, 277)))), some (.inl z), some (.inl a0), some (.inl (Int32.ofNat k))]) (st' := [.inl (Int32.ofNat k), .inr (.inr (.inl (76, 277)))]) (m' := (fl_row f 280 (upd (upd (f 280) (23 + k) (f 280 7)) 6 ((f 280 6) ||| ((1 : Int32) <<< ((Int32.ofNat k) &&& 31)))), l)) rfl rfl (fl_bo rfl) rfl ?_
          refine fl_Tq.cal rfl rfl (fl_bo rfl) rfl ?_
          refine r_writeDown_q (by simp only [fl_row_self, upd_ne (by decide : 20 ≠ 6), upd_ne (by omega : 20 ≠ 23 + k)]; exact hb) ?_
          show fl_Tq _ 230 211 [some (.inr (.inr (.inl (76, 277)))), some (.inl z), some (.inl a0), some (.inl (Int32.ofNat k))] [] (r_writeDown_m (fl_row f 280 (upd (upd (f 280) (23 + k) (f 280 7)) 6 ((f 280 6) ||| ((1 : Int32) <<< ((Int32.ofNat k) &&& 31))))) (Int32.ofNat k), l) _
          refine fl_Tq.stp (pc' := 214) (lv' := [some (.inr (.inr (.inl (76, 277)))), some (.inl z), some (.inl (a0 + (1 : Int32))), some (.inl (Int32.ofNat k))]) (st' := []) (m' := (r_writeDown_m (fl_row f 280 (upd (upd (f 280) (23 + k) (f 280 7)) 6 ((f 280 6) ||| ((1 : Int32) <<< ((Int32.ofNat k) &&& 31))))) (Int32.ofNat k), l)) rfl rfl (fl_bo rfl) rfl ?_
          have e0 : (r_goFaults_b123_j134_0 f z a0 k) = a0 + (1 : Int32) := by simp only [r_goFaults_b123_j134_0, if_neg h4, if_neg h5, if_pos h7]
          have e1 : (if (r_has_v z (Int32.ofNat k)).toInt = 0 then f else (if (Int32.ofNat k).toInt < (4 : Int32).toInt then (if (r_has_v (f 280 6) (Int32.ofNat k)).toInt = 0 then r_writeDown_m (fl_row f 280 (upd (upd (upd (f 280) (311 + k) (r_soBy_v f (Int32.ofNat k))) (23 + k) (f 280 7)) 6 ((f 280 6) ||| ((1 : Int32) <<< ((Int32.ofNat k) &&& 31))))) (Int32.ofNat k) else fl_row f 280 (upd (upd (f 280) (311 + k) (r_soBy_v f (Int32.ofNat k))) (23 + k) (f 280 7))) else (if (r_has_v (f 280 6) (Int32.ofNat k)).toInt = 0 then r_writeDown_m (fl_row f 280 (upd (upd (f 280) (23 + k) (f 280 7)) 6 ((f 280 6) ||| ((1 : Int32) <<< ((Int32.ofNat k) &&& 31))))) (Int32.ofNat k) else fl_row f 280 (upd (f 280) (23 + k) (f 280 7))))) = r_writeDown_m (fl_row f 280 (upd (upd (f 280) (23 + k) (f 280 7)) 6 ((f 280 6) ||| ((1 : Int32) <<< ((Int32.ofNat k) &&& 31))))) (Int32.ofNat k) := by simp only [if_neg h4, if_neg h5, if_pos h7]
          rw [e0, e1] at hJ
          exact hJ
        · refine fl_Tq.zf rfl (fl_bo rfl) (c1_eq_f h7) rfl ?_
          refine fl_Tq.stp (pc' := 214) (lv' := [some (.inr (.inr (.inl (76, 277)))), some (.inl z), some (.inl a0), some (.inl (Int32.ofNat k))]) (st' := []) (m' := (fl_row f 280 (upd (f 280) (23 + k) (f 280 7)), l)) rfl rfl (fl_bo rfl) rfl ?_
          have e0 : (r_goFaults_b123_j134_0 f z a0 k) = a0 := by simp only [r_goFaults_b123_j134_0, if_neg h4, if_neg h5, if_neg h7]
          have e1 : (if (r_has_v z (Int32.ofNat k)).toInt = 0 then f else (if (Int32.ofNat k).toInt < (4 : Int32).toInt then (if (r_has_v (f 280 6) (Int32.ofNat k)).toInt = 0 then r_writeDown_m (fl_row f 280 (upd (upd (upd (f 280) (311 + k) (r_soBy_v f (Int32.ofNat k))) (23 + k) (f 280 7)) 6 ((f 280 6) ||| ((1 : Int32) <<< ((Int32.ofNat k) &&& 31))))) (Int32.ofNat k) else fl_row f 280 (upd (upd (f 280) (311 + k) (r_soBy_v f (Int32.ofNat k))) (23 + k) (f 280 7))) else (if (r_has_v (f 280 6) (Int32.ofNat k)).toInt = 0 then r_writeDown_m (fl_row f 280 (upd (upd (f 280) (23 + k) (f 280 7)) 6 ((f 280 6) ||| ((1 : Int32) <<< ((Int32.ofNat k) &&& 31))))) (Int32.ofNat k) else fl_row f 280 (upd (f 280) (23 + k) (f 280 7))))) = fl_row f 280 (upd (f 280) (23 + k) (f 280 7)) := by simp only [if_neg h4, if_neg h5, if_neg h7]
          rw [e0, e1] at hJ
          exact hJ
  refine hj89 ?_
  show fl_Tq _ 230 214 [some (.inr (.inr (.inl (76, 277)))), some (.inl z), some (.inl (r_goFaults_b123_j134_0 f z a0 k)), some (.inl (Int32.ofNat k))] [] (if (r_has_v z (Int32.ofNat k)).toInt = 0 then f else (if (Int32.ofNat k).toInt < (4 : Int32).toInt then (if (r_has_v (f 280 6) (Int32.ofNat k)).toInt = 0 then r_writeDown_m (fl_row f 280 (upd (upd (upd (f 280) (311 + k) (r_soBy_v f (Int32.ofNat k))) (23 + k) (f 280 7)) 6 ((f 280 6) ||| ((1 : Int32) <<< ((Int32.ofNat k) &&& 31))))) (Int32.ofNat k) else fl_row f 280 (upd (upd (f 280) (311 + k) (r_soBy_v f (Int32.ofNat k))) (23 + k) (f 280 7))) else (if (r_has_v (f 280 6) (Int32.ofNat k)).toInt = 0 then r_writeDown_m (fl_row f 280 (upd (upd (f 280) (23 + k) (f 280 7)) 6 ((f 280 6) ||| ((1 : Int32) <<< ((Int32.ofNat k) &&& 31))))) (Int32.ofNat k) else fl_row f 280 (upd (f 280) (23 + k) (f 280 7)))), l) _
  refine fl_Tq.stp (pc' := 217) (lv' := [some (.inr (.inr (.inl (76, 277)))), some (.inl z), some (.inl (r_goFaults_b123_j134_0 f z a0 k)), some (.inl ((Int32.ofNat k) + (1 : Int32)))]) (st' := []) (m' := (if (r_has_v z (Int32.ofNat k)).toInt = 0 then f else (if (Int32.ofNat k).toInt < (4 : Int32).toInt then (if (r_has_v (f 280 6) (Int32.ofNat k)).toInt = 0 then r_writeDown_m (fl_row f 280 (upd (upd (upd (f 280) (311 + k) (r_soBy_v f (Int32.ofNat k))) (23 + k) (f 280 7)) 6 ((f 280 6) ||| ((1 : Int32) <<< ((Int32.ofNat k) &&& 31))))) (Int32.ofNat k) else fl_row f 280 (upd (upd (f 280) (311 + k) (r_soBy_v f (Int32.ofNat k))) (23 + k) (f 280 7))) else (if (r_has_v (f 280 6) (Int32.ofNat k)).toInt = 0 then r_writeDown_m (fl_row f 280 (upd (upd (f 280) (23 + k) (f 280 7)) 6 ((f 280 6) ||| ((1 : Int32) <<< ((Int32.ofNat k) &&& 31))))) (Int32.ofNat k) else fl_row f 280 (upd (f 280) (23 + k) (f 280 7)))), l)) rfl rfl (fl_bo rfl) rfl ?_
  refine fl_Tq.stp (pc' := 123) (lv' := [some (.inr (.inr (.inl (76, 277)))), some (.inl z), some (.inl (r_goFaults_b123_j134_0 f z a0 k)), some (.inl ((Int32.ofNat k) + (1 : Int32)))]) (st' := []) (m' := (if (r_has_v z (Int32.ofNat k)).toInt = 0 then f else (if (Int32.ofNat k).toInt < (4 : Int32).toInt then (if (r_has_v (f 280 6) (Int32.ofNat k)).toInt = 0 then r_writeDown_m (fl_row f 280 (upd (upd (upd (f 280) (311 + k) (r_soBy_v f (Int32.ofNat k))) (23 + k) (f 280 7)) 6 ((f 280 6) ||| ((1 : Int32) <<< ((Int32.ofNat k) &&& 31))))) (Int32.ofNat k) else fl_row f 280 (upd (upd (f 280) (311 + k) (r_soBy_v f (Int32.ofNat k))) (23 + k) (f 280 7))) else (if (r_has_v (f 280 6) (Int32.ofNat k)).toInt = 0 then r_writeDown_m (fl_row f 280 (upd (upd (f 280) (23 + k) (f 280 7)) 6 ((f 280 6) ||| ((1 : Int32) <<< ((Int32.ofNat k) &&& 31))))) (Int32.ofNat k) else fl_row f 280 (upd (f 280) (23 + k) (f 280 7)))), l)) rfl rfl (fl_bo rfl) rfl ?_
  have em : r_goFaults_b123_m f z a0 k = if (r_has_v z (Int32.ofNat k)).toInt = 0 then f else (if (Int32.ofNat k).toInt < (4 : Int32).toInt then (if (r_has_v (f 280 6) (Int32.ofNat k)).toInt = 0 then r_writeDown_m (fl_row f 280 (upd (upd (upd (f 280) (311 + k) (r_soBy_v f (Int32.ofNat k))) (23 + k) (f 280 7)) 6 ((f 280 6) ||| ((1 : Int32) <<< ((Int32.ofNat k) &&& 31))))) (Int32.ofNat k) else fl_row f 280 (upd (upd (f 280) (311 + k) (r_soBy_v f (Int32.ofNat k))) (23 + k) (f 280 7))) else (if (r_has_v (f 280 6) (Int32.ofNat k)).toInt = 0 then r_writeDown_m (fl_row f 280 (upd (upd (f 280) (23 + k) (f 280 7)) 6 ((f 280 6) ||| ((1 : Int32) <<< ((Int32.ofNat k) &&& 31))))) (Int32.ofNat k) else fl_row f 280 (upd (f 280) (23 + k) (f 280 7)))) := rfl
  have ea : r_goFaults_b123_v f z a0 k = r_goFaults_b123_j134_0 f z a0 k := rfl
  rw [ea, em, ← t2_k1] at hS
  exact hS
noncomputable def r_goFaults_l123 (f : t2_F)  : Nat → t2_F × Int32
  | 0 => (fl_row f 280 (upd (upd (upd (f 280) 15 (r_goFaults_j18_0 f)) 16 (r_goFaults_j53_0 f)) 22 ((f 280 22) + (1 : Int32))), (0 : Int32))
  | k + 1 => (r_goFaults_b123_m (r_goFaults_l123 f k).1 (r_goFaults_a91 f 11) (r_goFaults_l123 f k).2 k, r_goFaults_b123_v (r_goFaults_l123 f k).1 (r_goFaults_a91 f 11) (r_goFaults_l123 f k).2 k)
noncomputable def r_goFaults_f123 (f : t2_F)  (k : Nat) : t2_F := (r_goFaults_l123 f k).1
noncomputable def r_goFaults_a123_0 (f : t2_F)  (k : Nat) : Int32 := (r_goFaults_l123 f k).2
theorem r_goFaults_f123_fr {f : t2_F}  {p : Nat} : ∀ {k : Nat}  (e280 : p ≠ 280), r_goFaults_f123 f k p = (fl_row f 280 (upd (upd (upd (f 280) 15 (r_goFaults_j18_0 f)) 16 (r_goFaults_j53_0 f)) 22 ((f 280 22) + (1 : Int32)))) p := by
  intro k
  induction k with
  | zero => intros; rfl
  | succ k ih =>
    intro  e280
    exact (r_goFaults_b123_fr (a0 := (r_goFaults_l123 f k).2) (z := r_goFaults_a91 f 11) (k := k)  e280).trans (ih  e280)
theorem r_goFaults_b123_hb {f : t2_F} {z a0 : Int32} {k : Nat} (hb : 0 ≤ (f 280 20).toInt ∧ (f 280 20).toInt ≤ 24) : 0 ≤ ((r_goFaults_b123_m f z a0 k) 280 20).toInt ∧ ((r_goFaults_b123_m f z a0 k) 280 20).toInt ≤ 24 := by
  have k6 : 20 ≠ 6 := by decide
  have k20 : 20 ≠ 23 + k := by omega
  have k311 : 20 ≠ 311 + k := by omega
  unfold r_goFaults_b123_m
  split
  · exact hb
  · split
    · split
      · refine r_writeDown_hb ?_
        rw [fl_row_self, upd_ne k6, upd_ne k20, upd_ne k311]
        exact hb
      · rw [fl_row_self, upd_ne k20, upd_ne k311]
        exact hb
    · split
      · refine r_writeDown_hb ?_
        rw [fl_row_self, upd_ne k6, upd_ne k20]
        exact hb
      · rw [fl_row_self, upd_ne k20]
        exact hb
theorem r_goFaults_ib {f : t2_F} (hb : 0 ≤ (f 280 20).toInt ∧ (f 280 20).toInt ≤ 24) : ∀ k : Nat, 0 ≤ ((r_goFaults_f123 f k) 280 20).toInt ∧ ((r_goFaults_f123 f k) 280 20).toInt ≤ 24 := by
  intro k
  induction k with
  | zero =>
    have e : r_goFaults_f123 f 0 280 20 = f 280 20 := by
      unfold r_goFaults_f123 r_goFaults_l123
      simp only [fl_row_self, upd_ne (by decide : 20 ≠ 15), upd_ne (by decide : 20 ≠ 16), upd_ne (by decide : 20 ≠ 22)]
    rw [e]
    exact hb
  | succ k ih => exact r_goFaults_b123_hb (a0 := (r_goFaults_l123 f k).2) ih
theorem r_goFaults_f123_w {f : t2_F} {w : Nat} (hb : 0 ≤ (f 280 20).toInt ∧ (f 280 20).toInt ≤ 24) : ∀ {k : Nat} (hkb : k ≤ 11) (hw : w ≠ 6 ∧ w ≠ 20 ∧ (w < 23 ∨ 34 ≤ w) ∧ (w < 167 ∨ 217 ≤ w) ∧ (w < 311 ∨ 315 ≤ w) ∧ w ≠ 15 ∧ w ≠ 16 ∧ w ≠ 22), r_goFaults_f123 f k 280 w = f 280 w := by
  intro k
  induction k with
  | zero =>
    intro hkb hw
    unfold r_goFaults_f123 r_goFaults_l123
    simp only [fl_row_self, upd_ne (show w ≠ 15 by omega), upd_ne (show w ≠ 16 by omega), upd_ne (show w ≠ 22 by omega)]
  | succ k ih =>
    intro hkb hw
    exact (r_goFaults_b123_w (a0 := (r_goFaults_l123 f k).2) (by omega) (r_goFaults_ib hb k) (by omega)).trans (ih (by omega) hw)
noncomputable def r_goFaults_j227_0 (f : t2_F)  : Int32 := if ((r_goFaults_f123 f 11) 280 6).toInt = 0 then (r_goFaults_f123 f 11) 280 3 else (0 : Int32)
noncomputable def r_goFaults_v (f : t2_F) : Int32 := r_goFaults_a123_0 f 11
noncomputable def r_goFaults_m (f : t2_F) : t2_F := fl_row (r_goFaults_f123 f 11) 280 (upd ((r_goFaults_f123 f 11) 280) 3 (r_goFaults_j227_0 f))
theorem r_goFaults_fr {f : t2_F}  {p : Nat}  (e280 : p ≠ 280) : r_goFaults_m f p = f p := by
  unfold r_goFaults_m
  repeat' split
  all_goals first | rfl | simp only [fl_row_ne e280, r_goFaults_f123_fr (k := 11) e280]
theorem r_goFaults_w {f : t2_F}  {w : Nat} (hb : 0 ≤ (f 280 20).toInt ∧ (f 280 20).toInt ≤ 24) (hw : w ≠ 6 ∧ w ≠ 20 ∧ (w < 23 ∨ 34 ≤ w) ∧ (w < 167 ∨ 217 ≤ w) ∧ (w < 311 ∨ 315 ≤ w) ∧ w ≠ 3 ∧ w ≠ 15 ∧ w ≠ 16 ∧ w ≠ 22) : r_goFaults_m f 280 w = f 280 w := by
  unfold r_goFaults_m
  repeat' split
  all_goals first | rfl | simp only [fl_row_self, upd_ne (show w ≠ 3 by omega), upd_ne (show w ≠ 15 by omega), upd_ne (show w ≠ 16 by omega), upd_ne (show w ≠ 22 by omega), r_goFaults_f123_w (f := f) (k := 11) (w := w) hb (by omega) (by omega)]
theorem r_goFaults_q {L : Nat} {xs : Nat → Int32} {f : t2_F} {l : t2_L} {Q : Option fl_V → fl_M → Prop}  (hn : 0 ≤ (f 280 2).toInt ∧ (f 280 2).toInt ≤ 16) (hr : t2_RS f) (hk : ∀ C : Nat, (C : Int) < (f 280 2).toInt → t2_ck f C) (hs : f 277 4 = 0 ∨ f 277 4 = 1) (hb : 0 ≤ (f 280 20).toInt ∧ (f 280 20).toInt ≤ 24) (k : Q (some (.inl (r_goFaults_v f))) (r_goFaults_m f, l)) : fl_Tq (pw_P L xs) 230 0 (fl_args (am_mxl (pw_P L xs) 230) [.inr (.inr (.inl (76, 277)))]) [] (f, l) Q := by
  refine fl_Tq.stp (pc' := 1) (lv' := [some (.inr (.inr (.inl (76, 277)))), none, none, none]) (st' := [.inr (.inr (.inl (76, 277)))]) (m' := (f, l)) rfl rfl (fl_bo rfl) rfl ?_
  refine fl_Tq.stp (pc' := 4) (lv' := [some (.inr (.inr (.inl (76, 277)))), none, none, none]) (st' := [.inr (.inr (.inl (79, 280)))]) (m' := (f, l)) rfl rfl (fl_bo rfl) rfl ?_
  refine fl_Tq.cB (c := (15 : Int32)) rfl (by decide +kernel) (fl_bo rfl) ?_
  refine fl_Tq.stp (pc' := 7) (lv' := [some (.inr (.inr (.inl (76, 277)))), none, none, none]) (st' := [.inr (.inr (.inl (76, 277))), .inl (15 : Int32), .inr (.inr (.inl (79, 280)))]) (m' := (f, l)) rfl rfl (fl_bo rfl) rfl ?_
  refine fl_Tq.cB (c := (9 : Int32)) rfl (by decide +kernel) (fl_bo rfl) ?_
  refine fl_Tq.cal rfl rfl (fl_bo rfl) rfl ?_
  refine t2_its (W := 9) (v := f 280 43) (by decide +kernel) (by decide) rfl ?_
  show fl_Tq _ 230 12 [some (.inr (.inr (.inl (76, 277)))), none, none, none] [.inl (f 280 43), .inl (15 : Int32), .inr (.inr (.inl (79, 280)))] (f, l) _
  refine fl_Tq.stp (pc' := 13) (lv' := [some (.inr (.inr (.inl (76, 277)))), none, none, none]) (st' := [.inr (.inr (.inl (76, 277))), .inl (f 280 43), .inl (15 : Int32), .inr (.inr (.inl (79, 280)))]) (m' := (f, l)) rfl rfl (fl_bo rfl) rfl ?_
  refine fl_Tq.cB (c := (10 : Int32)) rfl (by decide +kernel) (fl_bo rfl) ?_
  refine fl_Tq.cal rfl rfl (fl_bo rfl) rfl ?_
  refine t2_its (W := 10) (v := f 280 44) (by decide +kernel) (by decide) rfl ?_
  show fl_Tq _ 230 18 [some (.inr (.inr (.inl (76, 277)))), none, none, none] [.inl (f 280 44), .inl (f 280 43), .inl (15 : Int32), .inr (.inr (.inl (79, 280)))] (f, l) _
  have hj86 : fl_Tq (pw_P L xs) 230 38 [some (.inr (.inr (.inl (76, 277)))), none, none, none] [.inl (r_goFaults_j18_0 f), .inl (15 : Int32), .inr (.inr (.inl (79, 280)))] (f, l) Q → fl_Tq (pw_P L xs) 230 18 [some (.inr (.inr (.inl (76, 277)))), none, none, none] [.inl (f 280 44), .inl (f 280 43), .inl (15 : Int32), .inr (.inr (.inl (79, 280)))] (f, l) Q := by
    intro hJ
    by_cases h1 : (f 280 43).toInt < (f 280 44).toInt
    · refine fl_Tq.jf rfl (fl_bo rfl) (c2_ge_f h1) rfl ?_
      refine fl_Tq.stp (pc' := 22) (lv' := [some (.inr (.inr (.inl (76, 277)))), none, none, none]) (st' := [.inr (.inr (.inl (76, 277))), .inl (15 : Int32), .inr (.inr (.inl (79, 280)))]) (m' := (f, l)) rfl rfl (fl_bo rfl) rfl ?_
      refine fl_Tq.stp (pc' := 25) (lv' := [some (.inr (.inr (.inl (76, 277)))), none, none, none]) (st' := [.inr (.inr (.inl (79, 280))), .inl (15 : Int32), .inr (.inr (.inl (79, 280)))]) (m' := (f, l)) rfl rfl (fl_bo rfl) rfl ?_
      refine fl_Tq.cB (c := (15 : Int32)) rfl (by decide +kernel) (fl_bo rfl) ?_
      refine fl_Tq.ldV (p := 280) (τ := 79) (n := 29780) (z := (0, 0, 0)) (k := 15) (v := f 280 15) rfl (fl_bo rfl) rfl (by decide +kernel) (by decide) rfl ?_
      refine fl_Tq.cI (c := (1 : Int32)) rfl (by decide +kernel) (fl_bo rfl) ?_
      refine fl_Tq.stp (pc' := 30) (lv' := [some (.inr (.inr (.inl (76, 277)))), none, none, none]) (st' := [.inl ((f 280 15) + (1 : Int32)), .inl (15 : Int32), .inr (.inr (.inl (79, 280)))]) (m' := (f, l)) rfl rfl (fl_bo rfl) rfl ?_
      refine fl_Tq.cI (c := (3 : Int32)) rfl (by decide +kernel) (fl_bo rfl) ?_
      refine fl_Tq.cal rfl rfl (fl_bo rfl) rfl ?_
      refine r_lesser_q  ?_
      show fl_Tq _ 230 34 [some (.inr (.inr (.inl (76, 277)))), none, none, none] [.inl (r_lesser_v ((f 280 15) + (1 : Int32)) (3 : Int32)), .inl (15 : Int32), .inr (.inr (.inl (79, 280)))] (f, l) _
      refine fl_Tq.stp (pc' := 38) (lv' := [some (.inr (.inr (.inl (76, 277)))), none, none, none]) (st' := [.inl (r_lesser_v ((f 280 15) + (1 : Int32)) (3 : Int32)), .inl (15 : Int32), .inr (.inr (.inl (79, 280)))]) (m' := (f, l)) rfl rfl (fl_bo rfl) rfl ?_
      have e0 : (r_goFaults_j18_0 f) = r_lesser_v ((f 280 15) + (1 : Int32)) (3 : Int32) := by simp only [r_goFaults_j18_0, if_pos h1]
      rw [e0] at hJ
      exact hJ
    · refine fl_Tq.jt rfl (fl_bo rfl) (c2_ge_t h1) rfl ?_
      refine fl_Tq.cI (c := (0 : Int32)) rfl (by decide +kernel) (fl_bo rfl) ?_
      have e0 : (r_goFaults_j18_0 f) = (0 : Int32) := by simp only [r_goFaults_j18_0, if_neg h1]
      rw [e0] at hJ
      exact hJ
  refine hj86 ?_
  show fl_Tq _ 230 38 [some (.inr (.inr (.inl (76, 277)))), none, none, none] [.inl (r_goFaults_j18_0 f), .inl (15 : Int32), .inr (.inr (.inl (79, 280)))] (f, l) _
  refine fl_Tq.svV (p := 280) (τ := 79) (n := 29780) (z := (0, 0, 0)) (k := 15) (m' := (fl_row f 280 (upd (f 280) 15 (r_goFaults_j18_0 f)), l)) rfl (fl_bo rfl) rfl (by decide +kernel) (by decide) (t2_upn rfl) ?_
  refine fl_Tq.stp (pc' := 40) (lv' := [some (.inr (.inr (.inl (76, 277)))), none, none, none]) (st' := [.inr (.inr (.inl (76, 277)))]) (m' := (fl_row f 280 (upd (f 280) 15 (r_goFaults_j18_0 f)), l)) rfl rfl (fl_bo rfl) rfl ?_
  refine fl_Tq.stp (pc' := 43) (lv' := [some (.inr (.inr (.inl (76, 277)))), none, none, none]) (st' := [.inr (.inr (.inl (79, 280)))]) (m' := (fl_row f 280 (upd (f 280) 15 (r_goFaults_j18_0 f)), l)) rfl rfl (fl_bo rfl) rfl ?_
  refine fl_Tq.cB (c := (16 : Int32)) rfl (by decide +kernel) (fl_bo rfl) ?_
  refine fl_Tq.stp (pc' := 46) (lv' := [some (.inr (.inr (.inl (76, 277)))), none, none, none]) (st' := [.inr (.inr (.inl (76, 277))), .inl (16 : Int32), .inr (.inr (.inl (79, 280)))]) (m' := (fl_row f 280 (upd (f 280) 15 (r_goFaults_j18_0 f)), l)) rfl rfl (fl_bo rfl) rfl ?_
  refine fl_Tq.cal rfl rfl (fl_bo rfl) rfl ?_
  refine r_actual_q  ?_
  show fl_Tq _ 230 49 [some (.inr (.inr (.inl (76, 277)))), none, none, none] [.inl (r_actual_v (fl_row f 280 (upd (f 280) 15 (r_goFaults_j18_0 f)))), .inl (16 : Int32), .inr (.inr (.inl (79, 280)))] (fl_row f 280 (upd (f 280) 15 (r_goFaults_j18_0 f)), l) _
  refine fl_Tq.stp (pc' := 50) (lv' := [some (.inr (.inr (.inl (76, 277)))), none, none, none]) (st' := [.inr (.inr (.inl (76, 277))), .inl (r_actual_v (fl_row f 280 (upd (f 280) 15 (r_goFaults_j18_0 f)))), .inl (16 : Int32), .inr (.inr (.inl (79, 280)))]) (m' := (fl_row f 280 (upd (f 280) 15 (r_goFaults_j18_0 f)), l)) rfl rfl (fl_bo rfl) rfl ?_
  refine fl_Tq.cal rfl rfl (fl_bo rfl) rfl ?_
  refine r_ordered_q  ?_
  show fl_Tq _ 230 53 [some (.inr (.inr (.inl (76, 277)))), none, none, none] [.inl (r_ordered_v (fl_row f 280 (upd (f 280) 15 (r_goFaults_j18_0 f)))), .inl (r_actual_v (fl_row f 280 (upd (f 280) 15 (r_goFaults_j18_0 f)))), .inl (16 : Int32), .inr (.inr (.inl (79, 280)))] (fl_row f 280 (upd (f 280) 15 (r_goFaults_j18_0 f)), l) _
  have hj87 : fl_Tq (pw_P L xs) 230 73 [some (.inr (.inr (.inl (76, 277)))), none, none, none] [.inl (r_goFaults_j53_0 f), .inl (16 : Int32), .inr (.inr (.inl (79, 280)))] (fl_row f 280 (upd (f 280) 15 (r_goFaults_j18_0 f)), l) Q → fl_Tq (pw_P L xs) 230 53 [some (.inr (.inr (.inl (76, 277)))), none, none, none] [.inl (r_ordered_v (fl_row f 280 (upd (f 280) 15 (r_goFaults_j18_0 f)))), .inl (r_actual_v (fl_row f 280 (upd (f 280) 15 (r_goFaults_j18_0 f)))), .inl (16 : Int32), .inr (.inr (.inl (79, 280)))] (fl_row f 280 (upd (f 280) 15 (r_goFaults_j18_0 f)), l) Q := by
    intro hJ
    by_cases h2 : (r_actual_v (fl_row f 280 (upd (f 280) 15 (r_goFaults_j18_0 f)))).toInt = (r_ordered_v (fl_row f 280 (upd (f 280) 15 (r_goFaults_j18_0 f)))).toInt
    · refine fl_Tq.jt rfl (fl_bo rfl) (c2_eq_t h2) rfl ?_
      refine fl_Tq.cI (c := (0 : Int32)) rfl (by decide +kernel) (fl_bo rfl) ?_
      have e0 : (r_goFaults_j53_0 f) = (0 : Int32) := by simp only [r_goFaults_j53_0, if_pos h2]
      rw [e0] at hJ
      exact hJ
    · refine fl_Tq.jf rfl (fl_bo rfl) (c2_eq_f h2) rfl ?_
      refine fl_Tq.stp (pc' := 57) (lv' := [some (.inr (.inr (.inl (76, 277)))), none, none, none]) (st' := [.inr (.inr (.inl (76, 277))), .inl (16 : Int32), .inr (.inr (.inl (79, 280)))]) (m' := (fl_row f 280 (upd (f 280) 15 (r_goFaults_j18_0 f)), l)) rfl rfl (fl_bo rfl) rfl ?_
      refine fl_Tq.stp (pc' := 60) (lv' := [some (.inr (.inr (.inl (76, 277)))), none, none, none]) (st' := [.inr (.inr (.inl (79, 280))), .inl (16 : Int32), .inr (.inr (.inl (79, 280)))]) (m' := (fl_row f 280 (upd (f 280) 15 (r_goFaults_j18_0 f)), l)) rfl rfl (fl_bo rfl) rfl ?_
      refine fl_Tq.cB (c := (16 : Int32)) rfl (by decide +kernel) (fl_bo rfl) ?_
      refine fl_Tq.ldV (p := 280) (τ := 79) (n := 29780) (z := (0, 0, 0)) (k := 16) (v := f 280 16) rfl (fl_bo rfl) rfl (by decide +kernel) (by decide) (by simp only [fl_row_self, upd_ne (by decide : 16 ≠ 15)]) ?_
      refine fl_Tq.cI (c := (1 : Int32)) rfl (by decide +kernel) (fl_bo rfl) ?_
      refine fl_Tq.stp (pc' := 65) (lv' := [some (.inr (.inr (.inl (76, 277)))), none, none, none]) (st' := [.inl ((f 280 16) + (1 : Int32)), .inl (16 : Int32), .inr (.inr (.inl (79, 280)))]) (m' := (fl_row f 280 (upd (f 280) 15 (r_goFaults_j18_0 f)), l)) rfl rfl (fl_bo rfl) rfl ?_
      refine fl_Tq.cI (c := (2 : Int32)) rfl (by decide +kernel) (fl_bo rfl) ?_
      refine fl_Tq.cal rfl rfl (fl_bo rfl) rfl ?_
      refine r_lesser_q  ?_
      show fl_Tq _ 230 69 [some (.inr (.inr (.inl (76, 277)))), none, none, none] [.inl (r_lesser_v ((f 280 16) + (1 : Int32)) (2 : Int32)), .inl (16 : Int32), .inr (.inr (.inl (79, 280)))] (fl_row f 280 (upd (f 280) 15 (r_goFaults_j18_0 f)), l) _
      refine fl_Tq.stp (pc' := 73) (lv' := [some (.inr (.inr (.inl (76, 277)))), none, none, none]) (st' := [.inl (r_lesser_v ((f 280 16) + (1 : Int32)) (2 : Int32)), .inl (16 : Int32), .inr (.inr (.inl (79, 280)))]) (m' := (fl_row f 280 (upd (f 280) 15 (r_goFaults_j18_0 f)), l)) rfl rfl (fl_bo rfl) rfl ?_
      have e0 : (r_goFaults_j53_0 f) = r_lesser_v ((f 280 16) + (1 : Int32)) (2 : Int32) := by simp only [r_goFaults_j53_0, if_neg h2]
      rw [e0] at hJ
      exact hJ
  refine hj87 ?_
  show fl_Tq _ 230 73 [some (.inr (.inr (.inl (76, 277)))), none, none, none] [.inl (r_goFaults_j53_0 f), .inl (16 : Int32), .inr (.inr (.inl (79, 280)))] (fl_row f 280 (upd (f 280) 15 (r_goFaults_j18_0 f)), l) _
  refine fl_Tq.svV (p := 280) (τ := 79) (n := 29780) (z := (0, 0, 0)) (k := 16) (m' := (fl_row f 280 (upd (upd (f 280) 15 (r_goFaults_j18_0 f)) 16 (r_goFaults_j53_0 f)), l)) rfl (fl_bo rfl) rfl (by decide +kernel) (by decide) (t2_upr) ?_
  refine fl_Tq.cI (c := (0 : Int32)) rfl (by decide +kernel) (fl_bo rfl) ?_
  refine fl_Tq.stp (pc' := 76) (lv' := [some (.inr (.inr (.inl (76, 277)))), some (.inl (0 : Int32)), none, none]) (st' := []) (m' := (fl_row f 280 (upd (upd (f 280) 15 (r_goFaults_j18_0 f)) 16 (r_goFaults_j53_0 f)), l)) rfl rfl (fl_bo rfl) rfl ?_
  refine fl_Tq.cI (c := (0 : Int32)) rfl (by decide +kernel) (fl_bo rfl) ?_
  refine fl_Tq.stp (pc' := 78) (lv' := [some (.inr (.inr (.inl (76, 277)))), some (.inl (0 : Int32)), some (.inl (0 : Int32)), none]) (st' := []) (m' := (fl_row f 280 (upd (upd (f 280) 15 (r_goFaults_j18_0 f)) 16 (r_goFaults_j53_0 f)), l)) rfl rfl (fl_bo rfl) rfl ?_
  refine fl_Tq.stp (pc' := 79) (lv' := [some (.inr (.inr (.inl (76, 277)))), some (.inl (0 : Int32)), some (.inl (0 : Int32)), none]) (st' := [.inr (.inr (.inl (76, 277)))]) (m' := (fl_row f 280 (upd (upd (f 280) 15 (r_goFaults_j18_0 f)) 16 (r_goFaults_j53_0 f)), l)) rfl rfl (fl_bo rfl) rfl ?_
  refine fl_Tq.stp (pc' := 82) (lv' := [some (.inr (.inr (.inl (76, 277)))), some (.inl (0 : Int32)), some (.inl (0 : Int32)), none]) (st' := [.inr (.inr (.inl (79, 280)))]) (m' := (fl_row f 280 (upd (upd (f 280) 15 (r_goFaults_j18_0 f)) 16 (r_goFaults_j53_0 f)), l)) rfl rfl (fl_bo rfl) rfl ?_
  refine fl_Tq.cB (c := (22 : Int32)) rfl (by decide +kernel) (fl_bo rfl) ?_
  refine fl_Tq.stp (pc' := 85) (lv' := [some (.inr (.inr (.inl (76, 277)))), some (.inl (0 : Int32)), some (.inl (0 : Int32)), none]) (st' := [.inl (22 : Int32), .inr (.inr (.inl (79, 280))), .inl (22 : Int32), .inr (.inr (.inl (79, 280)))]) (m' := (fl_row f 280 (upd (upd (f 280) 15 (r_goFaults_j18_0 f)) 16 (r_goFaults_j53_0 f)), l)) rfl rfl (fl_bo rfl) rfl ?_
  refine fl_Tq.ldV (p := 280) (τ := 79) (n := 29780) (z := (0, 0, 0)) (k := 22) (v := f 280 22) rfl (fl_bo rfl) rfl (by decide +kernel) (by decide) (by simp only [fl_row_self, upd_ne (by decide : 22 ≠ 16), upd_ne (by decide : 22 ≠ 15)]) ?_
  refine fl_Tq.cI (c := (1 : Int32)) rfl (by decide +kernel) (fl_bo rfl) ?_
  refine fl_Tq.stp (pc' := 88) (lv' := [some (.inr (.inr (.inl (76, 277)))), some (.inl (0 : Int32)), some (.inl (0 : Int32)), none]) (st' := [.inl ((f 280 22) + (1 : Int32)), .inl (22 : Int32), .inr (.inr (.inl (79, 280)))]) (m' := (fl_row f 280 (upd (upd (f 280) 15 (r_goFaults_j18_0 f)) 16 (r_goFaults_j53_0 f)), l)) rfl rfl (fl_bo rfl) rfl ?_
  refine fl_Tq.svV (p := 280) (τ := 79) (n := 29780) (z := (0, 0, 0)) (k := 22) (m' := (fl_row f 280 (upd (upd (upd (f 280) 15 (r_goFaults_j18_0 f)) 16 (r_goFaults_j53_0 f)) 22 ((f 280 22) + (1 : Int32))), l)) rfl (fl_bo rfl) rfl (by decide +kernel) (by decide) (t2_upr) ?_
  refine fl_Tq.cI (c := (0 : Int32)) rfl (by decide +kernel) (fl_bo rfl) ?_
  refine fl_Tq.stp (pc' := 91) (lv' := [some (.inr (.inr (.inl (76, 277)))), some (.inl (0 : Int32)), some (.inl (0 : Int32)), some (.inl (0 : Int32))]) (st' := []) (m' := (fl_row f 280 (upd (upd (upd (f 280) 15 (r_goFaults_j18_0 f)) 16 (r_goFaults_j53_0 f)) 22 ((f 280 22) + (1 : Int32))), l)) rfl rfl (fl_bo rfl) rfl ?_
  have hs91 : ∀ k91 : Nat, k91 < 11 → fl_Tq (pw_P L xs) 230 91 [some (.inr (.inr (.inl (76, 277)))), some (.inl (r_goFaults_a91 f (k91 + 1))), some (.inl (0 : Int32)), some (.inl (Int32.ofNat (k91 + 1)))] [] (fl_row f 280 (upd (upd (upd (f 280) 15 (r_goFaults_j18_0 f)) 16 (r_goFaults_j53_0 f)) 22 ((f 280 22) + (1 : Int32))), l) Q → fl_Tq (pw_P L xs) 230 91 [some (.inr (.inr (.inl (76, 277)))), some (.inl (r_goFaults_a91 f k91)), some (.inl (0 : Int32)), some (.inl (Int32.ofNat k91))] [] (fl_row f 280 (upd (upd (upd (f 280) 15 (r_goFaults_j18_0 f)) 16 (r_goFaults_j53_0 f)) 22 ((f 280 22) + (1 : Int32))), l) Q := by
    intro k91 hk91 hS
    refine fl_Tq.stp (pc' := 92) (lv' := [some (.inr (.inr (.inl (76, 277)))), some (.inl (r_goFaults_a91 f k91)), some (.inl (0 : Int32)), some (.inl (Int32.ofNat k91))]) (st' := [.inl (Int32.ofNat k91)]) (m' := (fl_row f 280 (upd (upd (upd (f 280) 15 (r_goFaults_j18_0 f)) 16 (r_goFaults_j53_0 f)) 22 ((f 280 22) + (1 : Int32))), l)) rfl rfl (fl_bo rfl) rfl ?_
    refine fl_Tq.cB (c := (11 : Int32)) rfl (by decide +kernel) (fl_bo rfl) ?_
    refine fl_Tq.jf rfl (fl_bo rfl) (c2_ge_f (t2_lk hk91 (by decide +kernel))) rfl ?_
    refine fl_Tq.stp (pc' := 98) (lv' := [some (.inr (.inr (.inl (76, 277)))), some (.inl (r_goFaults_a91 f k91)), some (.inl (0 : Int32)), some (.inl (Int32.ofNat k91))]) (st' := [.inl (r_goFaults_a91 f k91)]) (m' := (fl_row f 280 (upd (upd (upd (f 280) 15 (r_goFaults_j18_0 f)) 16 (r_goFaults_j53_0 f)) 22 ((f 280 22) + (1 : Int32))), l)) rfl rfl (fl_bo rfl) rfl ?_
    refine fl_Tq.stp (pc' := 99) (lv' := [some (.inr (.inr (.inl (76, 277)))), some (.inl (r_goFaults_a91 f k91)), some (.inl (0 : Int32)), some (.inl (Int32.ofNat k91))]) (st' := [.inr (.inr (.inl (76, 277))), .inl (r_goFaults_a91 f k91)]) (m' := (fl_row f 280 (upd (upd (upd (f 280) 15 (r_goFaults_j18_0 f)) 16 (r_goFaults_j53_0 f)) 22 ((f 280 22) + (1 : Int32))), l)) rfl rfl (fl_bo rfl) rfl ?_
    refine fl_Tq.stp (pc' := 100) (lv' := [some (.inr (.inr (.inl (76, 277)))), some (.inl (r_goFaults_a91 f k91)), some (.inl (0 : Int32)), some (.inl (Int32.ofNat k91))]) (st' := [.inl (Int32.ofNat k91), .inr (.inr (.inl (76, 277))), .inl (r_goFaults_a91 f k91)]) (m' := (fl_row f 280 (upd (upd (upd (f 280) 15 (r_goFaults_j18_0 f)) 16 (r_goFaults_j53_0 f)) 22 ((f 280 22) + (1 : Int32))), l)) rfl rfl (fl_bo rfl) rfl ?_
    refine fl_Tq.cal rfl rfl (fl_bo rfl) rfl ?_
    refine r_isSo_q (by simp only [fl_row_self, upd_ne (by decide : 2 ≠ 22), upd_ne (by decide : 2 ≠ 16), upd_ne (by decide : 2 ≠ 15)]; exact hn) (fun j => by simp only [fl_row_ne (by decide : 279 ≠ 280)]; exact hr j) (fun C hC => by simp only [fl_row_self, upd_ne (by decide : 2 ≠ 22), upd_ne (by decide : 2 ≠ 16), upd_ne (by decide : 2 ≠ 15), upd_ne (by omega : 444 + 61 * C + 0 ≠ 22), upd_ne (by omega : 444 + 61 * C + 0 ≠ 16), upd_ne (by omega : 444 + 61 * C + 0 ≠ 15), upd_ne (by omega : 444 + 61 * C + 1 ≠ 22), upd_ne (by omega : 444 + 61 * C + 1 ≠ 16), upd_ne (by omega : 444 + 61 * C + 1 ≠ 15)] at hC; unfold t2_ck; simp only [fl_row_self, upd_ne (by decide : 2 ≠ 22), upd_ne (by decide : 2 ≠ 16), upd_ne (by decide : 2 ≠ 15), upd_ne (by omega : 444 + 61 * C + 0 ≠ 22), upd_ne (by omega : 444 + 61 * C + 0 ≠ 16), upd_ne (by omega : 444 + 61 * C + 0 ≠ 15), upd_ne (by omega : 444 + 61 * C + 1 ≠ 22), upd_ne (by omega : 444 + 61 * C + 1 ≠ 16), upd_ne (by omega : 444 + 61 * C + 1 ≠ 15)]; exact hk C hC) (by simp only [fl_row_ne (by decide : 277 ≠ 280)]; exact hs) ?_
    show fl_Tq _ 230 103 [some (.inr (.inr (.inl (76, 277)))), some (.inl (r_goFaults_a91 f k91)), some (.inl (0 : Int32)), some (.inl (Int32.ofNat k91))] [.inl (r_isSo_v (fl_row f 280 (upd (upd (upd (f 280) 15 (r_goFaults_j18_0 f)) 16 (r_goFaults_j53_0 f)) 22 ((f 280 22) + (1 : Int32)))) (Int32.ofNat k91)), .inl (r_goFaults_a91 f k91)] (fl_row f 280 (upd (upd (upd (f 280) 15 (r_goFaults_j18_0 f)) 16 (r_goFaults_j53_0 f)) 22 ((f 280 22) + (1 : Int32))), l) _
    have hj88 : fl_Tq (pw_P L xs) 230 113 [some (.inr (.inr (.inl (76, 277)))), some (.inl (r_goFaults_a91 f k91)), some (.inl (0 : Int32)), some (.inl (Int32.ofNat k91))] [.inl (if (r_isSo_v (fl_row f 280 (upd (upd (upd (f 280) 15 (r_goFaults_j18_0 f)) 16 (r_goFaults_j53_0 f)) 22 ((f 280 22) + (1 : Int32)))) (Int32.ofNat k91)).toInt = 0 then (0 : Int32) else (1 : Int32) <<< ((Int32.ofNat k91) &&& 31)), .inl (r_goFaults_a91 f k91)] (fl_row f 280 (upd (upd (upd (f 280) 15 (r_goFaults_j18_0 f)) 16 (r_goFaults_j53_0 f)) 22 ((f 280 22) + (1 : Int32))), l) Q → fl_Tq (pw_P L xs) 230 103 [some (.inr (.inr (.inl (76, 277)))), some (.inl (r_goFaults_a91 f k91)), some (.inl (0 : Int32)), some (.inl (Int32.ofNat k91))] [.inl (r_isSo_v (fl_row f 280 (upd (upd (upd (f 280) 15 (r_goFaults_j18_0 f)) 16 (r_goFaults_j53_0 f)) 22 ((f 280 22) + (1 : Int32)))) (Int32.ofNat k91)), .inl (r_goFaults_a91 f k91)] (fl_row f 280 (upd (upd (upd (f 280) 15 (r_goFaults_j18_0 f)) 16 (r_goFaults_j53_0 f)) 22 ((f 280 22) + (1 : Int32))), l) Q := by
      intro hJ
      by_cases h3 : (r_isSo_v (fl_row f 280 (upd (upd (upd (f 280) 15 (r_goFaults_j18_0 f)) 16 (r_goFaults_j53_0 f)) 22 ((f 280 22) + (1 : Int32)))) (Int32.ofNat k91)).toInt = 0
      · refine fl_Tq.zt rfl (fl_bo rfl) (c1_eq_t h3) rfl ?_
        refine fl_Tq.cI (c := (0 : Int32)) rfl (by decide +kernel) (fl_bo rfl) ?_
        have e0 : (if (r_isSo_v (fl_row f 280 (upd (upd (upd (f 280) 15 (r_goFaults_j18_0 f)) 16 (r_goFaults_j53_0 f)) 22 ((f 280 22) + (1 : Int32)))) (Int32.ofNat k91)).toInt = 0 then (0 : Int32) else (1 : Int32) <<< ((Int32.ofNat k91) &&& 31)) = (0 : Int32) := by simp only [if_pos h3]
        rw [e0] at hJ
        exact hJ
      · refine fl_Tq.zf rfl (fl_bo rfl) (c1_eq_f h3) rfl ?_
        refine fl_Tq.cI (c := (1 : Int32)) rfl (by decide +kernel) (fl_bo rfl) ?_
        refine fl_Tq.stp (pc' := 108) (lv' := [some (.inr (.inr (.inl (76, 277)))), some (.inl (r_goFaults_a91 f k91)), some (.inl (0 : Int32)), some (.inl (Int32.ofNat k91))]) (st' := [.inl (Int32.ofNat k91), .inl (1 : Int32), .inl (r_goFaults_a91 f k91)]) (m' := (fl_row f 280 (upd (upd (upd (f 280) 15 (r_goFaults_j18_0 f)) 16 (r_goFaults_j53_0 f)) 22 ((f 280 22) + (1 : Int32))), l)) rfl rfl (fl_bo rfl) rfl ?_
        refine fl_Tq.stp (pc' := 109) (lv' := [some (.inr (.inr (.inl (76, 277)))), some (.inl (r_goFaults_a91 f k91)), some (.inl (0 : Int32)), some (.inl (Int32.ofNat k91))]) (st' := [.inl ((1 : Int32) <<< ((Int32.ofNat k91) &&& 31)), .inl (r_goFaults_a91 f k91)]) (m' := (fl_row f 280 (upd (upd (upd (f 280) 15 (r_goFaults_j18_0 f)) 16 (r_goFaults_j53_0 f)) 22 ((f 280 22) + (1 : Int32))), l)) rfl rfl (fl_bo rfl) rfl ?_
        refine fl_Tq.stp (pc' := 113) (lv' := [some (.inr (.inr (.inl (76, 277)))), some (.inl (r_goFaults_a91 f k91)), some (.inl (0 : Int32)), some (.inl (Int32.ofNat k91))]) (st' := [.inl ((1 : Int32) <<< ((Int32.ofNat k91) &&& 31)), .inl (r_goFaults_a91 f k91)]) (m' := (fl_row f 280 (upd (upd (upd (f 280) 15 (r_goFaults_j18_0 f)) 16 (r_goFaults_j53_0 f)) 22 ((f 280 22) + (1 : Int32))), l)) rfl rfl (fl_bo rfl) rfl ?_
        have e0 : (if (r_isSo_v (fl_row f 280 (upd (upd (upd (f 280) 15 (r_goFaults_j18_0 f)) 16 (r_goFaults_j53_0 f)) 22 ((f 280 22) + (1 : Int32)))) (Int32.ofNat k91)).toInt = 0 then (0 : Int32) else (1 : Int32) <<< ((Int32.ofNat k91) &&& 31)) = (1 : Int32) <<< ((Int32.ofNat k91) &&& 31) := by simp only [if_neg h3]
        rw [e0] at hJ
        exact hJ
    refine hj88 ?_
    show fl_Tq _ 230 113 [some (.inr (.inr (.inl (76, 277)))), some (.inl (r_goFaults_a91 f k91)), some (.inl (0 : Int32)), some (.inl (Int32.ofNat k91))] [.inl (if (r_isSo_v (fl_row f 280 (upd (upd (upd (f 280) 15 (r_goFaults_j18_0 f)) 16 (r_goFaults_j53_0 f)) 22 ((f 280 22) + (1 : Int32)))) (Int32.ofNat k91)).toInt = 0 then (0 : Int32) else (1 : Int32) <<< ((Int32.ofNat k91) &&& 31)), .inl (r_goFaults_a91 f k91)] (fl_row f 280 (upd (upd (upd (f 280) 15 (r_goFaults_j18_0 f)) 16 (r_goFaults_j53_0 f)) 22 ((f 280 22) + (1 : Int32))), l) _
    refine fl_Tq.stp (pc' := 114) (lv' := [some (.inr (.inr (.inl (76, 277)))), some (.inl (r_goFaults_a91 f k91)), some (.inl (0 : Int32)), some (.inl (Int32.ofNat k91))]) (st' := [.inl ((r_goFaults_a91 f k91) ||| (if (r_isSo_v (fl_row f 280 (upd (upd (upd (f 280) 15 (r_goFaults_j18_0 f)) 16 (r_goFaults_j53_0 f)) 22 ((f 280 22) + (1 : Int32)))) (Int32.ofNat k91)).toInt = 0 then (0 : Int32) else (1 : Int32) <<< ((Int32.ofNat k91) &&& 31)))]) (m' := (fl_row f 280 (upd (upd (upd (f 280) 15 (r_goFaults_j18_0 f)) 16 (r_goFaults_j53_0 f)) 22 ((f 280 22) + (1 : Int32))), l)) rfl rfl (fl_bo rfl) rfl ?_
    refine fl_Tq.stp (pc' := 115) (lv' := [some (.inr (.inr (.inl (76, 277)))), some (.inl ((r_goFaults_a91 f k91) ||| (if (r_isSo_v (fl_row f 280 (upd (upd (upd (f 280) 15 (r_goFaults_j18_0 f)) 16 (r_goFaults_j53_0 f)) 22 ((f 280 22) + (1 : Int32)))) (Int32.ofNat k91)).toInt = 0 then (0 : Int32) else (1 : Int32) <<< ((Int32.ofNat k91) &&& 31)))), some (.inl (0 : Int32)), some (.inl (Int32.ofNat k91))]) (st' := []) (m' := (fl_row f 280 (upd (upd (upd (f 280) 15 (r_goFaults_j18_0 f)) 16 (r_goFaults_j53_0 f)) 22 ((f 280 22) + (1 : Int32))), l)) rfl rfl (fl_bo rfl) rfl ?_
    refine fl_Tq.stp (pc' := 118) (lv' := [some (.inr (.inr (.inl (76, 277)))), some (.inl ((r_goFaults_a91 f k91) ||| (if (r_isSo_v (fl_row f 280 (upd (upd (upd (f 280) 15 (r_goFaults_j18_0 f)) 16 (r_goFaults_j53_0 f)) 22 ((f 280 22) + (1 : Int32)))) (Int32.ofNat k91)).toInt = 0 then (0 : Int32) else (1 : Int32) <<< ((Int32.ofNat k91) &&& 31)))), some (.inl (0 : Int32)), some (.inl ((Int32.ofNat k91) + (1 : Int32)))]) (st' := []) (m' := (fl_row f 280 (upd (upd (upd (f 280) 15 (r_goFaults_j18_0 f)) 16 (r_goFaults_j53_0 f)) 22 ((f 280 22) + (1 : Int32))), l)) rfl rfl (fl_bo rfl) rfl ?_
    refine fl_Tq.stp (pc' := 91) (lv' := [some (.inr (.inr (.inl (76, 277)))), some (.inl ((r_goFaults_a91 f k91) ||| (if (r_isSo_v (fl_row f 280 (upd (upd (upd (f 280) 15 (r_goFaults_j18_0 f)) 16 (r_goFaults_j53_0 f)) 22 ((f 280 22) + (1 : Int32)))) (Int32.ofNat k91)).toInt = 0 then (0 : Int32) else (1 : Int32) <<< ((Int32.ofNat k91) &&& 31)))), some (.inl (0 : Int32)), some (.inl ((Int32.ofNat k91) + (1 : Int32)))]) (st' := []) (m' := (fl_row f 280 (upd (upd (upd (f 280) 15 (r_goFaults_j18_0 f)) 16 (r_goFaults_j53_0 f)) 22 ((f 280 22) + (1 : Int32))), l)) rfl rfl (fl_bo rfl) rfl ?_
    have ea : r_goFaults_a91 f (k91 + 1) = (r_goFaults_a91 f k91) ||| (if (r_isSo_v (fl_row f 280 (upd (upd (upd (f 280) 15 (r_goFaults_j18_0 f)) 16 (r_goFaults_j53_0 f)) 22 ((f 280 22) + (1 : Int32)))) (Int32.ofNat k91)).toInt = 0 then (0 : Int32) else (1 : Int32) <<< ((Int32.ofNat k91) &&& 31)) := by
      show ((r_goFaults_a91 f k91) ||| (if (r_isSo_v (fl_row f 280 (upd (upd (upd (f 280) 15 (r_goFaults_j18_0 f)) 16 (r_goFaults_j53_0 f)) 22 ((f 280 22) + (1 : Int32)))) (Int32.ofNat k91)).toInt = 0 then (0 : Int32) else (1 : Int32) <<< ((Int32.ofNat k91) &&& 31))) = _
      rfl
    rw [ea, ← t2_k1] at hS
    exact hS
  refine t2_for (S := fun k91 => fl_Tq (pw_P L xs) 230 91 [some (.inr (.inr (.inl (76, 277)))), some (.inl (r_goFaults_a91 f k91)), some (.inl (0 : Int32)), some (.inl (Int32.ofNat k91))] [] (fl_row f 280 (upd (upd (upd (f 280) 15 (r_goFaults_j18_0 f)) 16 (r_goFaults_j53_0 f)) 22 ((f 280 22) + (1 : Int32))), l) Q) hs91 ?_
  show fl_Tq (pw_P L xs) 230 91 [some (.inr (.inr (.inl (76, 277)))), some (.inl (r_goFaults_a91 f 11)), some (.inl (0 : Int32)), some (.inl (Int32.ofNat 11))] [] (fl_row f 280 (upd (upd (upd (f 280) 15 (r_goFaults_j18_0 f)) 16 (r_goFaults_j53_0 f)) 22 ((f 280 22) + (1 : Int32))), l) _
  refine fl_Tq.stp (pc' := 92) (lv' := [some (.inr (.inr (.inl (76, 277)))), some (.inl (r_goFaults_a91 f 11)), some (.inl (0 : Int32)), some (.inl (Int32.ofNat 11))]) (st' := [.inl (Int32.ofNat 11)]) (m' := (fl_row f 280 (upd (upd (upd (f 280) 15 (r_goFaults_j18_0 f)) 16 (r_goFaults_j53_0 f)) 22 ((f 280 22) + (1 : Int32))), l)) rfl rfl (fl_bo rfl) rfl ?_
  refine fl_Tq.cB (c := (11 : Int32)) rfl (by decide +kernel) (fl_bo rfl) ?_
  refine fl_Tq.jt rfl (fl_bo rfl) (c2_ge_t (t2_ln (by decide +kernel))) rfl ?_
  refine fl_Tq.cI (c := (0 : Int32)) rfl (by decide +kernel) (fl_bo rfl) ?_
  refine fl_Tq.stp (pc' := 123) (lv' := [some (.inr (.inr (.inl (76, 277)))), some (.inl (r_goFaults_a91 f 11)), some (.inl (0 : Int32)), some (.inl (0 : Int32))]) (st' := []) (m' := (fl_row f 280 (upd (upd (upd (f 280) 15 (r_goFaults_j18_0 f)) 16 (r_goFaults_j53_0 f)) 22 ((f 280 22) + (1 : Int32))), l)) rfl rfl (fl_bo rfl) rfl ?_
  have hs123 : ∀ k : Nat, k < 11 → fl_Tq (pw_P L xs) 230 123 [some (.inr (.inr (.inl (76, 277)))), some (.inl (r_goFaults_a91 f 11)), some (.inl (r_goFaults_a123_0 f (k + 1))), some (.inl (Int32.ofNat (k + 1)))] [] (r_goFaults_f123 f (k + 1), l) Q → fl_Tq (pw_P L xs) 230 123 [some (.inr (.inr (.inl (76, 277)))), some (.inl (r_goFaults_a91 f 11)), some (.inl (r_goFaults_a123_0 f k)), some (.inl (Int32.ofNat k))] [] (r_goFaults_f123 f k, l) Q := fun k hkn hS => r_goFaults_b123_q hkn (by omega) (by rw [r_goFaults_f123_w hb (k := k) (by omega) (w := 2) (by omega)]; exact hn) (fun j => by rw [r_goFaults_f123_fr (k := k) (by decide : 279 ≠ 280), fl_row_ne (by decide)]; exact hr j) (fun C hC => by rw [r_goFaults_f123_w hb (k := k) (by omega) (w := 2) (by omega)] at hC; unfold t2_ck; rw [r_goFaults_f123_w hb (k := k) (by omega) (w := 444 + 61 * C + 0) (by omega), r_goFaults_f123_w hb (k := k) (by omega) (w := 444 + 61 * C + 1) (by omega)]; exact hk C hC) (r_goFaults_ib hb k) hS
  refine t2_for (S := fun k => fl_Tq (pw_P L xs) 230 123 [some (.inr (.inr (.inl (76, 277)))), some (.inl (r_goFaults_a91 f 11)), some (.inl (r_goFaults_a123_0 f k)), some (.inl (Int32.ofNat k))] [] (r_goFaults_f123 f k, l) Q) hs123 ?_
  show fl_Tq (pw_P L xs) 230 123 [some (.inr (.inr (.inl (76, 277)))), some (.inl (r_goFaults_a91 f 11)), some (.inl (r_goFaults_a123_0 f 11)), some (.inl (Int32.ofNat 11))] [] (r_goFaults_f123 f 11, l) _
  refine fl_Tq.stp (pc' := 124) (lv' := [some (.inr (.inr (.inl (76, 277)))), some (.inl (r_goFaults_a91 f 11)), some (.inl (r_goFaults_a123_0 f 11)), some (.inl (Int32.ofNat 11))]) (st' := [.inl (Int32.ofNat 11)]) (m' := (r_goFaults_f123 f 11, l)) rfl rfl (fl_bo rfl) rfl ?_
  refine fl_Tq.cB (c := (11 : Int32)) rfl (by decide +kernel) (fl_bo rfl) ?_
  refine fl_Tq.jt rfl (fl_bo rfl) (c2_ge_t (by have c11 : (11 : Int32).toInt = 11 := (by decide +kernel); have e2 : (Int32.ofNat 11).toInt = ((11 : Nat) : Int) := at_ofN (by omega); omega)) rfl ?_
  refine fl_Tq.stp (pc' := 221) (lv' := [some (.inr (.inr (.inl (76, 277)))), some (.inl (r_goFaults_a91 f 11)), some (.inl (r_goFaults_a123_0 f 11)), some (.inl (Int32.ofNat 11))]) (st' := [.inr (.inr (.inl (76, 277)))]) (m' := (r_goFaults_f123 f 11, l)) rfl rfl (fl_bo rfl) rfl ?_
  refine fl_Tq.stp (pc' := 224) (lv' := [some (.inr (.inr (.inl (76, 277)))), some (.inl (r_goFaults_a91 f 11)), some (.inl (r_goFaults_a123_0 f 11)), some (.inl (Int32.ofNat 11))]) (st' := [.inr (.inr (.inl (79, 280)))]) (m' := (r_goFaults_f123 f 11, l)) rfl rfl (fl_bo rfl) rfl ?_
  refine fl_Tq.cB (c := (6 : Int32)) rfl (by decide +kernel) (fl_bo rfl) ?_
  refine fl_Tq.ldV (p := 280) (τ := 79) (n := 29780) (z := (0, 0, 0)) (k := 6) (v := (r_goFaults_f123 f 11) 280 6) rfl (fl_bo rfl) rfl (by decide +kernel) (by decide) rfl ?_
  have hj90 : fl_Tq (pw_P L xs) 230 237 [some (.inr (.inr (.inl (76, 277)))), some (.inl (r_goFaults_a91 f 11)), some (.inl (r_goFaults_a123_0 f 11)), some (.inl (Int32.ofNat 11))] [] (fl_row (r_goFaults_f123 f 11) 280 (upd ((r_goFaults_f123 f 11) 280) 3 (r_goFaults_j227_0 f)), l) Q → fl_Tq (pw_P L xs) 230 227 [some (.inr (.inr (.inl (76, 277)))), some (.inl (r_goFaults_a91 f 11)), some (.inl (r_goFaults_a123_0 f 11)), some (.inl (Int32.ofNat 11))] [.inl ((r_goFaults_f123 f 11) 280 6)] (r_goFaults_f123 f 11, l) Q := by
    intro hJ
    by_cases h4 : ((r_goFaults_f123 f 11) 280 6).toInt = 0
    · refine fl_Tq.zt rfl (fl_bo rfl) (c1_eq_t h4) rfl ?_
      have e0 : (fl_row (r_goFaults_f123 f 11) 280 (upd ((r_goFaults_f123 f 11) 280) 3 (r_goFaults_j227_0 f))) = r_goFaults_f123 f 11 := by
        simp only [r_goFaults_j227_0, if_pos h4]
        funext q j
        simp only [fl_row, upd]
        repeat' split
        all_goals first | rfl | simp_all
      rw [e0] at hJ
      exact hJ
    · refine fl_Tq.zf rfl (fl_bo rfl) (c1_eq_f h4) rfl ?_
      refine fl_Tq.stp (pc' := 231) (lv' := [some (.inr (.inr (.inl (76, 277)))), some (.inl (r_goFaults_a91 f 11)), some (.inl (r_goFaults_a123_0 f 11)), some (.inl (Int32.ofNat 11))]) (st' := [.inr (.inr (.inl (76, 277)))]) (m' := (r_goFaults_f123 f 11, l)) rfl rfl (fl_bo rfl) rfl ?_
      refine fl_Tq.stp (pc' := 234) (lv' := [some (.inr (.inr (.inl (76, 277)))), some (.inl (r_goFaults_a91 f 11)), some (.inl (r_goFaults_a123_0 f 11)), some (.inl (Int32.ofNat 11))]) (st' := [.inr (.inr (.inl (79, 280)))]) (m' := (r_goFaults_f123 f 11, l)) rfl rfl (fl_bo rfl) rfl ?_
      refine fl_Tq.cI (c := (3 : Int32)) rfl (by decide +kernel) (fl_bo rfl) ?_
      refine fl_Tq.cI (c := (0 : Int32)) rfl (by decide +kernel) (fl_bo rfl) ?_
      refine fl_Tq.svV (p := 280) (τ := 79) (n := 29780) (z := (0, 0, 0)) (k := 3) (m' := (fl_row (r_goFaults_f123 f 11) 280 (upd ((r_goFaults_f123 f 11) 280) 3 (0 : Int32)), l)) rfl (fl_bo rfl) rfl (by decide +kernel) (by decide) (t2_upn rfl) ?_
      have e0 : (fl_row (r_goFaults_f123 f 11) 280 (upd ((r_goFaults_f123 f 11) 280) 3 (r_goFaults_j227_0 f))) = fl_row (r_goFaults_f123 f 11) 280 (upd ((r_goFaults_f123 f 11) 280) 3 (0 : Int32)) := by
        simp only [r_goFaults_j227_0, if_neg h4]
      rw [e0] at hJ
      exact hJ
  refine hj90 ?_
  show fl_Tq _ 230 237 [some (.inr (.inr (.inl (76, 277)))), some (.inl (r_goFaults_a91 f 11)), some (.inl (r_goFaults_a123_0 f 11)), some (.inl (Int32.ofNat 11))] [] (fl_row (r_goFaults_f123 f 11) 280 (upd ((r_goFaults_f123 f 11) 280) 3 (r_goFaults_j227_0 f)), l) _
  refine fl_Tq.stp (pc' := 238) (lv' := [some (.inr (.inr (.inl (76, 277)))), some (.inl (r_goFaults_a91 f 11)), some (.inl (r_goFaults_a123_0 f 11)), some (.inl (Int32.ofNat 11))]) (st' := [.inl (r_goFaults_a123_0 f 11)]) (m' := (fl_row (r_goFaults_f123 f 11) 280 (upd ((r_goFaults_f123 f 11) 280) 3 (r_goFaults_j227_0 f)), l)) rfl rfl (fl_bo rfl) rfl ?_
  exact fl_Tq.ret rfl rfl rfl k
