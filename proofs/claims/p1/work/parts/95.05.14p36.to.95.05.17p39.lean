/-! 95.05.14p36.lean.txt -/
section
theorem y_rank_A_p36 {L : Nat} {xs : Nat → Int32} {f : t2_F} {l : t2_L} {Q : Option fl_V → fl_M → Prop} {a : Int32}  (k : fl_Tq (pw_P L xs) 295 2 [some (.inr (.inr (.inl (76, 277)))), some (.inl a), some (.inl (0 : Int32)), none, none] [] (f, l) Q) : fl_Tq (pw_P L xs) 295 0 [some (.inr (.inr (.inl (76, 277)))), some (.inl a), none, none, none] [] (f, l) Q := by
  refine fl_Tq.cI (c := (0 : Int32)) rfl (by decide +kernel) (fl_bo rfl) ?_
  refine fl_Tq.stp (pc' := 2) (lv' := [some (.inr (.inr (.inl (76, 277)))), some (.inl a), some (.inl (0 : Int32)), none, none]) (st' := []) (m' := (f, l)) rfl rfl (fl_bo rfl) rfl ?_
  exact k
noncomputable def y_rank_B_a17_p36 (f : t2_F) (a : Int32) (E : Nat) : Nat → Int32
  | 0 => (0 : Int32)
  | k17 + 1 => (y_rank_B_a17_p36 f a E k17) + (if (r_partOf_v f (Int32.ofNat E) E).toInt < (r_partOf_v f (Int32.ofNat k17) k17).toInt then (1 : Int32) else (if (r_partOf_v f (Int32.ofNat k17) k17).toInt = (r_partOf_v f (Int32.ofNat E) E).toInt then (if (Int32.ofNat k17).toInt < (Int32.ofNat E).toInt then (1 : Int32) else (0 : Int32)) else (0 : Int32)))
theorem y_rank_B_p36 {L : Nat} {xs : Nat → Int32} {f : t2_F} {l : t2_L} {Q : Option fl_V → fl_M → Prop} {a : Int32} {E : Nat} (hC : E < 16) (hCn : (E : Int) < (f 280 2).toInt) (hn : 0 ≤ (f 280 2).toInt ∧ (f 280 2).toInt ≤ 16) (hk : ∀ C : Nat, (C : Int) < (f 280 2).toInt → t2_ck f C) (hkk : (Int32.ofNat E).toInt < (f 280 2).toInt) (k : fl_Tq (pw_P L xs) 295 76 [some (.inr (.inr (.inl (76, 277)))), some (.inl a), some (.inl (Int32.ofNat E)), some (.inl (y_rank_B_a17_p36 f a E ((f 280 2).toInt.toNat))), some (.inl (Int32.ofNat ((f 280 2).toInt.toNat)))] [] (f, l) Q) : fl_Tq (pw_P L xs) 295 2 [some (.inr (.inr (.inl (76, 277)))), some (.inl a), some (.inl (Int32.ofNat E)), none, none] [] (f, l) Q := by
  refine fl_Tq.stp (pc' := 3) (lv' := [some (.inr (.inr (.inl (76, 277)))), some (.inl a), some (.inl (Int32.ofNat E)), none, none]) (st' := [.inl (Int32.ofNat E)]) (m' := (f, l)) rfl rfl (fl_bo rfl) rfl ?_
  refine fl_Tq.stp (pc' := 4) (lv' := [some (.inr (.inr (.inl (76, 277)))), some (.inl a), some (.inl (Int32.ofNat E)), none, none]) (st' := [.inr (.inr (.inl (76, 277))), .inl (Int32.ofNat E)]) (m' := (f, l)) rfl rfl (fl_bo rfl) rfl ?_
  refine fl_Tq.stp (pc' := 7) (lv' := [some (.inr (.inr (.inl (76, 277)))), some (.inl a), some (.inl (Int32.ofNat E)), none, none]) (st' := [.inr (.inr (.inl (79, 280))), .inl (Int32.ofNat E)]) (m' := (f, l)) rfl rfl (fl_bo rfl) rfl ?_
  refine fl_Tq.cI (c := (2 : Int32)) rfl (by decide +kernel) (fl_bo rfl) ?_
  refine fl_Tq.ldV (p := 280) (τ := 79) (n := 29780) (z := (0, 0, 0)) (k := 2) (v := f 280 2) rfl (fl_bo rfl) rfl (by decide +kernel) (by decide) rfl ?_
  refine fl_Tq.jf rfl (fl_bo rfl) (c2_ge_f hkk) rfl ?_
  refine fl_Tq.cI (c := (0 : Int32)) rfl (by decide +kernel) (fl_bo rfl) ?_
  refine fl_Tq.stp (pc' := 14) (lv' := [some (.inr (.inr (.inl (76, 277)))), some (.inl a), some (.inl (Int32.ofNat E)), some (.inl (0 : Int32)), none]) (st' := []) (m' := (f, l)) rfl rfl (fl_bo rfl) rfl ?_
  refine fl_Tq.cI (c := (0 : Int32)) rfl (by decide +kernel) (fl_bo rfl) ?_
  refine fl_Tq.stp (pc' := 17) (lv' := [some (.inr (.inr (.inl (76, 277)))), some (.inl a), some (.inl (Int32.ofNat E)), some (.inl (0 : Int32)), some (.inl (0 : Int32))]) (st' := []) (m' := (f, l)) rfl rfl (fl_bo rfl) rfl ?_
  have hs17 : ∀ k17 : Nat, k17 < (f 280 2).toInt.toNat → fl_Tq (pw_P L xs) 295 17 [some (.inr (.inr (.inl (76, 277)))), some (.inl a), some (.inl (Int32.ofNat E)), some (.inl (y_rank_B_a17_p36 f a E (k17 + 1))), some (.inl (Int32.ofNat (k17 + 1)))] [] (f, l) Q → fl_Tq (pw_P L xs) 295 17 [some (.inr (.inr (.inl (76, 277)))), some (.inl a), some (.inl (Int32.ofNat E)), some (.inl (y_rank_B_a17_p36 f a E k17)), some (.inl (Int32.ofNat k17))] [] (f, l) Q := by
    intro k17 hk17 hS
    refine fl_Tq.stp (pc' := 19) (lv' := [some (.inr (.inr (.inl (76, 277)))), some (.inl a), some (.inl (Int32.ofNat E)), some (.inl (y_rank_B_a17_p36 f a E k17)), some (.inl (Int32.ofNat k17))]) (st' := [.inl (Int32.ofNat k17)]) (m' := (f, l)) rfl rfl (fl_bo rfl) rfl ?_
    refine fl_Tq.stp (pc' := 20) (lv' := [some (.inr (.inr (.inl (76, 277)))), some (.inl a), some (.inl (Int32.ofNat E)), some (.inl (y_rank_B_a17_p36 f a E k17)), some (.inl (Int32.ofNat k17))]) (st' := [.inr (.inr (.inl (76, 277))), .inl (Int32.ofNat k17)]) (m' := (f, l)) rfl rfl (fl_bo rfl) rfl ?_
    refine fl_Tq.stp (pc' := 23) (lv' := [some (.inr (.inr (.inl (76, 277)))), some (.inl a), some (.inl (Int32.ofNat E)), some (.inl (y_rank_B_a17_p36 f a E k17)), some (.inl (Int32.ofNat k17))]) (st' := [.inr (.inr (.inl (79, 280))), .inl (Int32.ofNat k17)]) (m' := (f, l)) rfl rfl (fl_bo rfl) rfl ?_
    refine fl_Tq.cI (c := (2 : Int32)) rfl (by decide +kernel) (fl_bo rfl) ?_
    refine fl_Tq.ldV (p := 280) (τ := 79) (n := 29780) (z := (0, 0, 0)) (k := 2) (v := f 280 2) rfl (fl_bo rfl) rfl (by decide +kernel) (by decide) rfl ?_
    refine fl_Tq.jf rfl (fl_bo rfl) (c2_ge_f (t2_lk hk17 (t2_nn hn.1))) rfl ?_
    refine fl_Tq.stp (pc' := 29) (lv' := [some (.inr (.inr (.inl (76, 277)))), some (.inl a), some (.inl (Int32.ofNat E)), some (.inl (y_rank_B_a17_p36 f a E k17)), some (.inl (Int32.ofNat k17))]) (st' := [.inl (y_rank_B_a17_p36 f a E k17)]) (m' := (f, l)) rfl rfl (fl_bo rfl) rfl ?_
    refine fl_Tq.stp (pc' := 30) (lv' := [some (.inr (.inr (.inl (76, 277)))), some (.inl a), some (.inl (Int32.ofNat E)), some (.inl (y_rank_B_a17_p36 f a E k17)), some (.inl (Int32.ofNat k17))]) (st' := [.inr (.inr (.inl (76, 277))), .inl (y_rank_B_a17_p36 f a E k17)]) (m' := (f, l)) rfl rfl (fl_bo rfl) rfl ?_
    refine fl_Tq.stp (pc' := 32) (lv' := [some (.inr (.inr (.inl (76, 277)))), some (.inl a), some (.inl (Int32.ofNat E)), some (.inl (y_rank_B_a17_p36 f a E k17)), some (.inl (Int32.ofNat k17))]) (st' := [.inl (Int32.ofNat k17), .inr (.inr (.inl (76, 277))), .inl (y_rank_B_a17_p36 f a E k17)]) (m' := (f, l)) rfl rfl (fl_bo rfl) rfl ?_
    refine fl_Tq.cal rfl rfl (fl_bo rfl) rfl ?_
    refine r_partOf_q (at_ofN (by omega)) (by omega) (hk k17 (by omega)) ?_
    show fl_Tq _ 295 35 [some (.inr (.inr (.inl (76, 277)))), some (.inl a), some (.inl (Int32.ofNat E)), some (.inl (y_rank_B_a17_p36 f a E k17)), some (.inl (Int32.ofNat k17))] [.inl (r_partOf_v f (Int32.ofNat k17) k17), .inl (y_rank_B_a17_p36 f a E k17)] (f, l) _
    refine fl_Tq.stp (pc' := 36) (lv' := [some (.inr (.inr (.inl (76, 277)))), some (.inl a), some (.inl (Int32.ofNat E)), some (.inl (y_rank_B_a17_p36 f a E k17)), some (.inl (Int32.ofNat k17))]) (st' := [.inr (.inr (.inl (76, 277))), .inl (r_partOf_v f (Int32.ofNat k17) k17), .inl (y_rank_B_a17_p36 f a E k17)]) (m' := (f, l)) rfl rfl (fl_bo rfl) rfl ?_
    refine fl_Tq.stp (pc' := 37) (lv' := [some (.inr (.inr (.inl (76, 277)))), some (.inl a), some (.inl (Int32.ofNat E)), some (.inl (y_rank_B_a17_p36 f a E k17)), some (.inl (Int32.ofNat k17))]) (st' := [.inl (Int32.ofNat E), .inr (.inr (.inl (76, 277))), .inl (r_partOf_v f (Int32.ofNat k17) k17), .inl (y_rank_B_a17_p36 f a E k17)]) (m' := (f, l)) rfl rfl (fl_bo rfl) rfl ?_
    refine fl_Tq.cal rfl rfl (fl_bo rfl) rfl ?_
    refine r_partOf_q (at_ofN (by omega)) (by omega) (hk E (by omega)) ?_
    show fl_Tq _ 295 40 [some (.inr (.inr (.inl (76, 277)))), some (.inl a), some (.inl (Int32.ofNat E)), some (.inl (y_rank_B_a17_p36 f a E k17)), some (.inl (Int32.ofNat k17))] [.inl (r_partOf_v f (Int32.ofNat E) E), .inl (r_partOf_v f (Int32.ofNat k17) k17), .inl (y_rank_B_a17_p36 f a E k17)] (f, l) _
    have hj190 : fl_Tq (pw_P L xs) 295 68 [some (.inr (.inr (.inl (76, 277)))), some (.inl a), some (.inl (Int32.ofNat E)), some (.inl (y_rank_B_a17_p36 f a E k17)), some (.inl (Int32.ofNat k17))] [.inl (if (r_partOf_v f (Int32.ofNat E) E).toInt < (r_partOf_v f (Int32.ofNat k17) k17).toInt then (1 : Int32) else (if (r_partOf_v f (Int32.ofNat k17) k17).toInt = (r_partOf_v f (Int32.ofNat E) E).toInt then (if (Int32.ofNat k17).toInt < (Int32.ofNat E).toInt then (1 : Int32) else (0 : Int32)) else (0 : Int32))), .inl (y_rank_B_a17_p36 f a E k17)] (f, l) Q → fl_Tq (pw_P L xs) 295 40 [some (.inr (.inr (.inl (76, 277)))), some (.inl a), some (.inl (Int32.ofNat E)), some (.inl (y_rank_B_a17_p36 f a E k17)), some (.inl (Int32.ofNat k17))] [.inl (r_partOf_v f (Int32.ofNat E) E), .inl (r_partOf_v f (Int32.ofNat k17) k17), .inl (y_rank_B_a17_p36 f a E k17)] (f, l) Q := by
      intro hJ
      by_cases h1 : (r_partOf_v f (Int32.ofNat E) E).toInt < (r_partOf_v f (Int32.ofNat k17) k17).toInt
      · refine fl_Tq.jt rfl (fl_bo rfl) (c2_gt_t h1) rfl ?_
        refine fl_Tq.cI (c := (1 : Int32)) rfl (by decide +kernel) (fl_bo rfl) ?_
        refine fl_Tq.stp (pc' := 68) (lv' := [some (.inr (.inr (.inl (76, 277)))), some (.inl a), some (.inl (Int32.ofNat E)), some (.inl (y_rank_B_a17_p36 f a E k17)), some (.inl (Int32.ofNat k17))]) (st' := [.inl (1 : Int32), .inl (y_rank_B_a17_p36 f a E k17)]) (m' := (f, l)) rfl rfl (fl_bo rfl) rfl ?_
        have e0 : (if (r_partOf_v f (Int32.ofNat E) E).toInt < (r_partOf_v f (Int32.ofNat k17) k17).toInt then (1 : Int32) else (if (r_partOf_v f (Int32.ofNat k17) k17).toInt = (r_partOf_v f (Int32.ofNat E) E).toInt then (if (Int32.ofNat k17).toInt < (Int32.ofNat E).toInt then (1 : Int32) else (0 : Int32)) else (0 : Int32))) = (1 : Int32) := by simp only [if_pos h1]
        rw [e0] at hJ
        exact hJ
      · refine fl_Tq.jf rfl (fl_bo rfl) (c2_gt_f h1) rfl ?_
        refine fl_Tq.stp (pc' := 44) (lv' := [some (.inr (.inr (.inl (76, 277)))), some (.inl a), some (.inl (Int32.ofNat E)), some (.inl (y_rank_B_a17_p36 f a E k17)), some (.inl (Int32.ofNat k17))]) (st' := [.inr (.inr (.inl (76, 277))), .inl (y_rank_B_a17_p36 f a E k17)]) (m' := (f, l)) rfl rfl (fl_bo rfl) rfl ?_
        refine fl_Tq.stp (pc' := 46) (lv' := [some (.inr (.inr (.inl (76, 277)))), some (.inl a), some (.inl (Int32.ofNat E)), some (.inl (y_rank_B_a17_p36 f a E k17)), some (.inl (Int32.ofNat k17))]) (st' := [.inl (Int32.ofNat k17), .inr (.inr (.inl (76, 277))), .inl (y_rank_B_a17_p36 f a E k17)]) (m' := (f, l)) rfl rfl (fl_bo rfl) rfl ?_
        refine fl_Tq.cal rfl rfl (fl_bo rfl) rfl ?_
        refine r_partOf_q (at_ofN (by omega)) (by omega) (hk k17 (by omega)) ?_
        show fl_Tq _ 295 49 [some (.inr (.inr (.inl (76, 277)))), some (.inl a), some (.inl (Int32.ofNat E)), some (.inl (y_rank_B_a17_p36 f a E k17)), some (.inl (Int32.ofNat k17))] [.inl (r_partOf_v f (Int32.ofNat k17) k17), .inl (y_rank_B_a17_p36 f a E k17)] (f, l) _
        refine fl_Tq.stp (pc' := 50) (lv' := [some (.inr (.inr (.inl (76, 277)))), some (.inl a), some (.inl (Int32.ofNat E)), some (.inl (y_rank_B_a17_p36 f a E k17)), some (.inl (Int32.ofNat k17))]) (st' := [.inr (.inr (.inl (76, 277))), .inl (r_partOf_v f (Int32.ofNat k17) k17), .inl (y_rank_B_a17_p36 f a E k17)]) (m' := (f, l)) rfl rfl (fl_bo rfl) rfl ?_
        refine fl_Tq.stp (pc' := 51) (lv' := [some (.inr (.inr (.inl (76, 277)))), some (.inl a), some (.inl (Int32.ofNat E)), some (.inl (y_rank_B_a17_p36 f a E k17)), some (.inl (Int32.ofNat k17))]) (st' := [.inl (Int32.ofNat E), .inr (.inr (.inl (76, 277))), .inl (r_partOf_v f (Int32.ofNat k17) k17), .inl (y_rank_B_a17_p36 f a E k17)]) (m' := (f, l)) rfl rfl (fl_bo rfl) rfl ?_
        refine fl_Tq.cal rfl rfl (fl_bo rfl) rfl ?_
        refine r_partOf_q (at_ofN (by omega)) (by omega) (hk E (by omega)) ?_
        show fl_Tq _ 295 54 [some (.inr (.inr (.inl (76, 277)))), some (.inl a), some (.inl (Int32.ofNat E)), some (.inl (y_rank_B_a17_p36 f a E k17)), some (.inl (Int32.ofNat k17))] [.inl (r_partOf_v f (Int32.ofNat E) E), .inl (r_partOf_v f (Int32.ofNat k17) k17), .inl (y_rank_B_a17_p36 f a E k17)] (f, l) _
        by_cases h2 : (r_partOf_v f (Int32.ofNat k17) k17).toInt = (r_partOf_v f (Int32.ofNat E) E).toInt
        · refine fl_Tq.jf rfl (fl_bo rfl) (c2_ne_f h2) rfl ?_
          refine fl_Tq.stp (pc' := 59) (lv' := [some (.inr (.inr (.inl (76, 277)))), some (.inl a), some (.inl (Int32.ofNat E)), some (.inl (y_rank_B_a17_p36 f a E k17)), some (.inl (Int32.ofNat k17))]) (st' := [.inl (Int32.ofNat k17), .inl (y_rank_B_a17_p36 f a E k17)]) (m' := (f, l)) rfl rfl (fl_bo rfl) rfl ?_
          refine fl_Tq.stp (pc' := 60) (lv' := [some (.inr (.inr (.inl (76, 277)))), some (.inl a), some (.inl (Int32.ofNat E)), some (.inl (y_rank_B_a17_p36 f a E k17)), some (.inl (Int32.ofNat k17))]) (st' := [.inl (Int32.ofNat E), .inl (Int32.ofNat k17), .inl (y_rank_B_a17_p36 f a E k17)]) (m' := (f, l)) rfl rfl (fl_bo rfl) rfl ?_
          by_cases h3 : (Int32.ofNat k17).toInt < (Int32.ofNat E).toInt
          · refine fl_Tq.jf rfl (fl_bo rfl) (c2_ge_f h3) rfl ?_
            refine fl_Tq.cI (c := (1 : Int32)) rfl (by decide +kernel) (fl_bo rfl) ?_
            refine fl_Tq.stp (pc' := 68) (lv' := [some (.inr (.inr (.inl (76, 277)))), some (.inl a), some (.inl (Int32.ofNat E)), some (.inl (y_rank_B_a17_p36 f a E k17)), some (.inl (Int32.ofNat k17))]) (st' := [.inl (1 : Int32), .inl (y_rank_B_a17_p36 f a E k17)]) (m' := (f, l)) rfl rfl (fl_bo rfl) rfl ?_
            have e0 : (if (r_partOf_v f (Int32.ofNat E) E).toInt < (r_partOf_v f (Int32.ofNat k17) k17).toInt then (1 : Int32) else (if (r_partOf_v f (Int32.ofNat k17) k17).toInt = (r_partOf_v f (Int32.ofNat E) E).toInt then (if (Int32.ofNat k17).toInt < (Int32.ofNat E).toInt then (1 : Int32) else (0 : Int32)) else (0 : Int32))) = (1 : Int32) := by simp only [if_neg h1, if_pos h2, if_pos h3]
            rw [e0] at hJ
            exact hJ
          · refine fl_Tq.jt rfl (fl_bo rfl) (c2_ge_t h3) rfl ?_
            refine fl_Tq.cI (c := (0 : Int32)) rfl (by decide +kernel) (fl_bo rfl) ?_
            have e0 : (if (r_partOf_v f (Int32.ofNat E) E).toInt < (r_partOf_v f (Int32.ofNat k17) k17).toInt then (1 : Int32) else (if (r_partOf_v f (Int32.ofNat k17) k17).toInt = (r_partOf_v f (Int32.ofNat E) E).toInt then (if (Int32.ofNat k17).toInt < (Int32.ofNat E).toInt then (1 : Int32) else (0 : Int32)) else (0 : Int32))) = (0 : Int32) := by simp only [if_neg h1, if_pos h2, if_neg h3]
            rw [e0] at hJ
            exact hJ
        · refine fl_Tq.jt rfl (fl_bo rfl) (c2_ne_t h2) rfl ?_
          refine fl_Tq.cI (c := (0 : Int32)) rfl (by decide +kernel) (fl_bo rfl) ?_
          have e0 : (if (r_partOf_v f (Int32.ofNat E) E).toInt < (r_partOf_v f (Int32.ofNat k17) k17).toInt then (1 : Int32) else (if (r_partOf_v f (Int32.ofNat k17) k17).toInt = (r_partOf_v f (Int32.ofNat E) E).toInt then (if (Int32.ofNat k17).toInt < (Int32.ofNat E).toInt then (1 : Int32) else (0 : Int32)) else (0 : Int32))) = (0 : Int32) := by simp only [if_neg h1, if_neg h2]
          rw [e0] at hJ
          exact hJ
    refine hj190 ?_
    show fl_Tq _ 295 68 [some (.inr (.inr (.inl (76, 277)))), some (.inl a), some (.inl (Int32.ofNat E)), some (.inl (y_rank_B_a17_p36 f a E k17)), some (.inl (Int32.ofNat k17))] [.inl (if (r_partOf_v f (Int32.ofNat E) E).toInt < (r_partOf_v f (Int32.ofNat k17) k17).toInt then (1 : Int32) else (if (r_partOf_v f (Int32.ofNat k17) k17).toInt = (r_partOf_v f (Int32.ofNat E) E).toInt then (if (Int32.ofNat k17).toInt < (Int32.ofNat E).toInt then (1 : Int32) else (0 : Int32)) else (0 : Int32))), .inl (y_rank_B_a17_p36 f a E k17)] (f, l) _
    refine fl_Tq.stp (pc' := 69) (lv' := [some (.inr (.inr (.inl (76, 277)))), some (.inl a), some (.inl (Int32.ofNat E)), some (.inl (y_rank_B_a17_p36 f a E k17)), some (.inl (Int32.ofNat k17))]) (st' := [.inl ((y_rank_B_a17_p36 f a E k17) + (if (r_partOf_v f (Int32.ofNat E) E).toInt < (r_partOf_v f (Int32.ofNat k17) k17).toInt then (1 : Int32) else (if (r_partOf_v f (Int32.ofNat k17) k17).toInt = (r_partOf_v f (Int32.ofNat E) E).toInt then (if (Int32.ofNat k17).toInt < (Int32.ofNat E).toInt then (1 : Int32) else (0 : Int32)) else (0 : Int32))))]) (m' := (f, l)) rfl rfl (fl_bo rfl) rfl ?_
    refine fl_Tq.stp (pc' := 70) (lv' := [some (.inr (.inr (.inl (76, 277)))), some (.inl a), some (.inl (Int32.ofNat E)), some (.inl ((y_rank_B_a17_p36 f a E k17) + (if (r_partOf_v f (Int32.ofNat E) E).toInt < (r_partOf_v f (Int32.ofNat k17) k17).toInt then (1 : Int32) else (if (r_partOf_v f (Int32.ofNat k17) k17).toInt = (r_partOf_v f (Int32.ofNat E) E).toInt then (if (Int32.ofNat k17).toInt < (Int32.ofNat E).toInt then (1 : Int32) else (0 : Int32)) else (0 : Int32))))), some (.inl (Int32.ofNat k17))]) (st' := []) (m' := (f, l)) rfl rfl (fl_bo rfl) rfl ?_
    refine fl_Tq.stp (pc' := 73) (lv' := [some (.inr (.inr (.inl (76, 277)))), some (.inl a), some (.inl (Int32.ofNat E)), some (.inl ((y_rank_B_a17_p36 f a E k17) + (if (r_partOf_v f (Int32.ofNat E) E).toInt < (r_partOf_v f (Int32.ofNat k17) k17).toInt then (1 : Int32) else (if (r_partOf_v f (Int32.ofNat k17) k17).toInt = (r_partOf_v f (Int32.ofNat E) E).toInt then (if (Int32.ofNat k17).toInt < (Int32.ofNat E).toInt then (1 : Int32) else (0 : Int32)) else (0 : Int32))))), some (.inl ((Int32.ofNat k17) + (1 : Int32)))]) (st' := []) (m' := (f, l)) rfl rfl (fl_bo rfl) rfl ?_
    refine fl_Tq.stp (pc' := 17) (lv' := [some (.inr (.inr (.inl (76, 277)))), some (.inl a), some (.inl (Int32.ofNat E)), some (.inl ((y_rank_B_a17_p36 f a E k17) + (if (r_partOf_v f (Int32.ofNat E) E).toInt < (r_partOf_v f (Int32.ofNat k17) k17).toInt then (1 : Int32) else (if (r_partOf_v f (Int32.ofNat k17) k17).toInt = (r_partOf_v f (Int32.ofNat E) E).toInt then (if (Int32.ofNat k17).toInt < (Int32.ofNat E).toInt then (1 : Int32) else (0 : Int32)) else (0 : Int32))))), some (.inl ((Int32.ofNat k17) + (1 : Int32)))]) (st' := []) (m' := (f, l)) rfl rfl (fl_bo rfl) rfl ?_
    have ea : y_rank_B_a17_p36 f a E (k17 + 1) = (y_rank_B_a17_p36 f a E k17) + (if (r_partOf_v f (Int32.ofNat E) E).toInt < (r_partOf_v f (Int32.ofNat k17) k17).toInt then (1 : Int32) else (if (r_partOf_v f (Int32.ofNat k17) k17).toInt = (r_partOf_v f (Int32.ofNat E) E).toInt then (if (Int32.ofNat k17).toInt < (Int32.ofNat E).toInt then (1 : Int32) else (0 : Int32)) else (0 : Int32))) := by
      show ((y_rank_B_a17_p36 f a E k17) + (if (r_partOf_v f (Int32.ofNat E) E).toInt < (r_partOf_v f (Int32.ofNat k17) k17).toInt then (1 : Int32) else (if (r_partOf_v f (Int32.ofNat k17) k17).toInt = (r_partOf_v f (Int32.ofNat E) E).toInt then (if (Int32.ofNat k17).toInt < (Int32.ofNat E).toInt then (1 : Int32) else (0 : Int32)) else (0 : Int32)))) = _
      rfl
    rw [ea, ← t2_k1] at hS
    exact hS
  refine t2_for (S := fun k17 => fl_Tq (pw_P L xs) 295 17 [some (.inr (.inr (.inl (76, 277)))), some (.inl a), some (.inl (Int32.ofNat E)), some (.inl (y_rank_B_a17_p36 f a E k17)), some (.inl (Int32.ofNat k17))] [] (f, l) Q) hs17 ?_
  show fl_Tq (pw_P L xs) 295 17 [some (.inr (.inr (.inl (76, 277)))), some (.inl a), some (.inl (Int32.ofNat E)), some (.inl (y_rank_B_a17_p36 f a E ((f 280 2).toInt.toNat))), some (.inl (Int32.ofNat ((f 280 2).toInt.toNat)))] [] (f, l) _
  refine fl_Tq.stp (pc' := 19) (lv' := [some (.inr (.inr (.inl (76, 277)))), some (.inl a), some (.inl (Int32.ofNat E)), some (.inl (y_rank_B_a17_p36 f a E ((f 280 2).toInt.toNat))), some (.inl (Int32.ofNat ((f 280 2).toInt.toNat)))]) (st' := [.inl (Int32.ofNat ((f 280 2).toInt.toNat))]) (m' := (f, l)) rfl rfl (fl_bo rfl) rfl ?_
  refine fl_Tq.stp (pc' := 20) (lv' := [some (.inr (.inr (.inl (76, 277)))), some (.inl a), some (.inl (Int32.ofNat E)), some (.inl (y_rank_B_a17_p36 f a E ((f 280 2).toInt.toNat))), some (.inl (Int32.ofNat ((f 280 2).toInt.toNat)))]) (st' := [.inr (.inr (.inl (76, 277))), .inl (Int32.ofNat ((f 280 2).toInt.toNat))]) (m' := (f, l)) rfl rfl (fl_bo rfl) rfl ?_
  refine fl_Tq.stp (pc' := 23) (lv' := [some (.inr (.inr (.inl (76, 277)))), some (.inl a), some (.inl (Int32.ofNat E)), some (.inl (y_rank_B_a17_p36 f a E ((f 280 2).toInt.toNat))), some (.inl (Int32.ofNat ((f 280 2).toInt.toNat)))]) (st' := [.inr (.inr (.inl (79, 280))), .inl (Int32.ofNat ((f 280 2).toInt.toNat))]) (m' := (f, l)) rfl rfl (fl_bo rfl) rfl ?_
  refine fl_Tq.cI (c := (2 : Int32)) rfl (by decide +kernel) (fl_bo rfl) ?_
  refine fl_Tq.ldV (p := 280) (τ := 79) (n := 29780) (z := (0, 0, 0)) (k := 2) (v := f 280 2) rfl (fl_bo rfl) rfl (by decide +kernel) (by decide) rfl ?_
  refine fl_Tq.jt rfl (fl_bo rfl) (c2_ge_t (t2_ln (t2_nn hn.1))) rfl ?_
  exact k
theorem y_rank_C_p36 {L : Nat} {xs : Nat → Int32} {f : t2_F} {l : t2_L} {Q : Option fl_V → fl_M → Prop} {a z y : Int32} {E : Nat}  (k : (z.toInt = a.toInt) → Q (some (.inl (Int32.ofNat E))) (f, l)) (k1 : (¬ (z.toInt = a.toInt)) → fl_Tq (pw_P L xs) 295 2 [some (.inr (.inr (.inl (76, 277)))), some (.inl a), some (.inl ((Int32.ofNat E) + (1 : Int32))), some (.inl z), some (.inl y)] [] (f, l) Q) : fl_Tq (pw_P L xs) 295 76 [some (.inr (.inr (.inl (76, 277)))), some (.inl a), some (.inl (Int32.ofNat E)), some (.inl z), some (.inl y)] [] (f, l) Q := by
  refine fl_Tq.stp (pc' := 77) (lv' := [some (.inr (.inr (.inl (76, 277)))), some (.inl a), some (.inl (Int32.ofNat E)), some (.inl z), some (.inl y)]) (st' := [.inl z]) (m' := (f, l)) rfl rfl (fl_bo rfl) rfl ?_
  refine fl_Tq.stp (pc' := 78) (lv' := [some (.inr (.inr (.inl (76, 277)))), some (.inl a), some (.inl (Int32.ofNat E)), some (.inl z), some (.inl y)]) (st' := [.inl a, .inl z]) (m' := (f, l)) rfl rfl (fl_bo rfl) rfl ?_
  by_cases h1 : z.toInt = a.toInt
  · refine fl_Tq.jf rfl (fl_bo rfl) (c2_ne_f h1) rfl ?_
    refine fl_Tq.stp (pc' := 82) (lv' := [some (.inr (.inr (.inl (76, 277)))), some (.inl a), some (.inl (Int32.ofNat E)), some (.inl z), some (.inl y)]) (st' := [.inl (Int32.ofNat E)]) (m' := (f, l)) rfl rfl (fl_bo rfl) rfl ?_
    exact fl_Tq.ret rfl rfl rfl (k h1)
  · refine fl_Tq.jt rfl (fl_bo rfl) (c2_ne_t h1) rfl ?_
    refine fl_Tq.stp (pc' := 86) (lv' := [some (.inr (.inr (.inl (76, 277)))), some (.inl a), some (.inl ((Int32.ofNat E) + (1 : Int32))), some (.inl z), some (.inl y)]) (st' := []) (m' := (f, l)) rfl rfl (fl_bo rfl) rfl ?_
    refine fl_Tq.stp (pc' := 2) (lv' := [some (.inr (.inr (.inl (76, 277)))), some (.inl a), some (.inl ((Int32.ofNat E) + (1 : Int32))), some (.inl z), some (.inl y)]) (st' := []) (m' := (f, l)) rfl rfl (fl_bo rfl) rfl ?_
    exact k1 h1
theorem y_rank_D_p36 {L : Nat} {xs : Nat → Int32} {f : t2_F} {l : t2_L} {Q : Option fl_V → fl_M → Prop} {a : Int32} {E : Nat} (hkk : ¬ ((Int32.ofNat E).toInt < (f 280 2).toInt)) (k : Q (some (.inl (-1 : Int32))) (f, l)) : fl_Tq (pw_P L xs) 295 2 [some (.inr (.inr (.inl (76, 277)))), some (.inl a), some (.inl (Int32.ofNat E)), none, none] [] (f, l) Q := by
  refine fl_Tq.stp (pc' := 3) (lv' := [some (.inr (.inr (.inl (76, 277)))), some (.inl a), some (.inl (Int32.ofNat E)), none, none]) (st' := [.inl (Int32.ofNat E)]) (m' := (f, l)) rfl rfl (fl_bo rfl) rfl ?_
  refine fl_Tq.stp (pc' := 4) (lv' := [some (.inr (.inr (.inl (76, 277)))), some (.inl a), some (.inl (Int32.ofNat E)), none, none]) (st' := [.inr (.inr (.inl (76, 277))), .inl (Int32.ofNat E)]) (m' := (f, l)) rfl rfl (fl_bo rfl) rfl ?_
  refine fl_Tq.stp (pc' := 7) (lv' := [some (.inr (.inr (.inl (76, 277)))), some (.inl a), some (.inl (Int32.ofNat E)), none, none]) (st' := [.inr (.inr (.inl (79, 280))), .inl (Int32.ofNat E)]) (m' := (f, l)) rfl rfl (fl_bo rfl) rfl ?_
  refine fl_Tq.cI (c := (2 : Int32)) rfl (by decide +kernel) (fl_bo rfl) ?_
  refine fl_Tq.ldV (p := 280) (τ := 79) (n := 29780) (z := (0, 0, 0)) (k := 2) (v := f 280 2) rfl (fl_bo rfl) rfl (by decide +kernel) (by decide) rfl ?_
  refine fl_Tq.jt rfl (fl_bo rfl) (c2_ge_t hkk) rfl ?_
  refine fl_Tq.cI (c := (-1 : Int32)) rfl (by decide +kernel) (fl_bo rfl) ?_
  exact fl_Tq.ret rfl rfl rfl k
theorem x_mid_A_p36 {L : Nat} {xs : Nat → Int32} {f : t2_F} {l : t2_L} {Q : Option fl_V → fl_M → Prop}  (hc : 0 ≤ (f 1 5).toInt ∧ (f 1 5).toInt ≤ 16) (k : ((c0_rankedCell_v f ((f 1 5) / (2 : Int32))).toInt = (-1 : Int32).toInt) → Q (some (.inl (-1 : Int32))) (f, l)) (k1 : (¬ ((c0_rankedCell_v f ((f 1 5) / (2 : Int32))).toInt = (-1 : Int32).toInt)) → fl_Tq (pw_P L xs) 48 20 [some (.inr (.inr (.inl (1, 1)))), some (.inl (c0_rankedCell_v f ((f 1 5) / (2 : Int32))))] [] (f, l) Q) : fl_Tq (pw_P L xs) 48 0 [some (.inr (.inr (.inl (1, 1)))), none] [] (f, l) Q := by
  refine fl_Tq.stp (pc' := 1) (lv' := [some (.inr (.inr (.inl (1, 1)))), none]) (st' := [.inr (.inr (.inl (1, 1)))]) (m' := (f, l)) rfl rfl (fl_bo rfl) rfl ?_
  refine fl_Tq.stp (pc' := 2) (lv' := [some (.inr (.inr (.inl (1, 1)))), none]) (st' := [.inr (.inr (.inl (1, 1))), .inr (.inr (.inl (1, 1)))]) (m' := (f, l)) rfl rfl (fl_bo rfl) rfl ?_
  refine fl_Tq.gfV (k := 5) (v := f 1 5) rfl (fl_bo rfl) rfl rfl ?_
  refine fl_Tq.cI (c := (2 : Int32)) rfl (by decide +kernel) (fl_bo rfl) ?_
  refine fl_Tq.dv rfl (fl_bo rfl) (by decide +kernel) ?_
  refine fl_Tq.cal rfl rfl (fl_bo rfl) rfl ?_
  refine c0_rankedCell_q hc ?_
  show fl_Tq _ 48 10 [some (.inr (.inr (.inl (1, 1)))), none] [.inl (c0_rankedCell_v f ((f 1 5) / (2 : Int32)))] (f, l) _
  refine fl_Tq.stp (pc' := 11) (lv' := [some (.inr (.inr (.inl (1, 1)))), some (.inl (c0_rankedCell_v f ((f 1 5) / (2 : Int32))))]) (st' := []) (m' := (f, l)) rfl rfl (fl_bo rfl) rfl ?_
  refine fl_Tq.stp (pc' := 12) (lv' := [some (.inr (.inr (.inl (1, 1)))), some (.inl (c0_rankedCell_v f ((f 1 5) / (2 : Int32))))]) (st' := [.inl (c0_rankedCell_v f ((f 1 5) / (2 : Int32)))]) (m' := (f, l)) rfl rfl (fl_bo rfl) rfl ?_
  refine fl_Tq.cI (c := (-1 : Int32)) rfl (by decide +kernel) (fl_bo rfl) ?_
  by_cases h1 : (c0_rankedCell_v f ((f 1 5) / (2 : Int32))).toInt = (-1 : Int32).toInt
  · refine fl_Tq.jf rfl (fl_bo rfl) (c2_ne_f h1) rfl ?_
    refine fl_Tq.cI (c := (-1 : Int32)) rfl (by decide +kernel) (fl_bo rfl) ?_
    refine fl_Tq.stp (pc' := 29) (lv' := [some (.inr (.inr (.inl (1, 1)))), some (.inl (c0_rankedCell_v f ((f 1 5) / (2 : Int32))))]) (st' := [.inl (-1 : Int32)]) (m' := (f, l)) rfl rfl (fl_bo rfl) rfl ?_
    exact fl_Tq.ret rfl rfl rfl (k h1)
  · refine fl_Tq.jt rfl (fl_bo rfl) (c2_ne_t h1) rfl ?_
    exact k1 h1
theorem x_mid_B_p36 {L : Nat} {xs : Nat → Int32} {f : t2_F} {l : t2_L} {Q : Option fl_V → fl_M → Prop} {z : Int32} {A : Nat} (hA : z.toInt = (A : Int)) (hA1 : A < 16) (k : Q (some (.inl (f (18 + 4 * A) 3))) (f, l)) : fl_Tq (pw_P L xs) 48 20 [some (.inr (.inr (.inl (1, 1)))), some (.inl z)] [] (f, l) Q := by
  refine fl_Tq.stp (pc' := 21) (lv' := [some (.inr (.inr (.inl (1, 1)))), some (.inl z)]) (st' := [.inr (.inr (.inl (1, 1)))]) (m' := (f, l)) rfl rfl (fl_bo rfl) rfl ?_
  refine fl_Tq.stp (pc' := 24) (lv' := [some (.inr (.inr (.inl (1, 1)))), some (.inl z)]) (st' := [.inr (.inr (.inl (2, 2)))]) (m' := (f, l)) rfl rfl (fl_bo rfl) rfl ?_
  refine fl_Tq.stp (pc' := 25) (lv' := [some (.inr (.inr (.inl (1, 1)))), some (.inl z)]) (st' := [.inl z, .inr (.inr (.inl (2, 2)))]) (m' := (f, l)) rfl rfl (fl_bo rfl) rfl ?_
  refine fl_Tq.qld (p := 2) (τ := 2) (n := 16) (t := 18) (b := 16) (d := 3) (k := A) rfl (fl_bo rfl) rfl hA hA1 ?_
  show fl_Tq _ 48 26 [some (.inr (.inr (.inl (1, 1)))), some (.inl z)] [.inr (.inr (.inl (18, 18 + 4 * A)))] (f, l) _
  refine fl_Tq.gfV (k := 3) (v := f (18 + 4 * A) 3) rfl (fl_oks_ok ⟨(t2_kc0 hA1), True.intro⟩) rfl rfl ?_
  exact fl_Tq.ret rfl rfl rfl k
theorem y_mid_A_p36 {L : Nat} {xs : Nat → Int32} {f : t2_F} {l : t2_L} {Q : Option fl_V → fl_M → Prop}   (k : ((f 280 2).toInt = 0) → Q (some (.inl (-1 : Int32))) (f, l)) (k1 : (¬ ((f 280 2).toInt = 0)) → fl_Tq (pw_P L xs) 296 23 [some (.inr (.inr (.inl (76, 277))))] [.inl ((f 280 2) / (2 : Int32)), .inr (.inr (.inl (76, 277))), .inr (.inr (.inl (76, 277)))] (f, l) Q) : fl_Tq (pw_P L xs) 296 0 [some (.inr (.inr (.inl (76, 277))))] [] (f, l) Q := by
  refine fl_Tq.stp (pc' := 1) (lv' := [some (.inr (.inr (.inl (76, 277))))]) (st' := [.inr (.inr (.inl (76, 277)))]) (m' := (f, l)) rfl rfl (fl_bo rfl) rfl ?_
  refine fl_Tq.stp (pc' := 4) (lv' := [some (.inr (.inr (.inl (76, 277))))]) (st' := [.inr (.inr (.inl (79, 280)))]) (m' := (f, l)) rfl rfl (fl_bo rfl) rfl ?_
  refine fl_Tq.cI (c := (2 : Int32)) rfl (by decide +kernel) (fl_bo rfl) ?_
  refine fl_Tq.ldV (p := 280) (τ := 79) (n := 29780) (z := (0, 0, 0)) (k := 2) (v := f 280 2) rfl (fl_bo rfl) rfl (by decide +kernel) (by decide) rfl ?_
  by_cases h1 : (f 280 2).toInt = 0
  · refine fl_Tq.zf rfl (fl_bo rfl) (c1_ne_f h1) rfl ?_
    refine fl_Tq.cI (c := (-1 : Int32)) rfl (by decide +kernel) (fl_bo rfl) ?_
    refine fl_Tq.stp (pc' := 29) (lv' := [some (.inr (.inr (.inl (76, 277))))]) (st' := [.inl (-1 : Int32)]) (m' := (f, l)) rfl rfl (fl_bo rfl) rfl ?_
    exact fl_Tq.ret rfl rfl rfl (k h1)
  · refine fl_Tq.zt rfl (fl_bo rfl) (c1_ne_t h1) rfl ?_
    refine fl_Tq.stp (pc' := 14) (lv' := [some (.inr (.inr (.inl (76, 277))))]) (st' := [.inr (.inr (.inl (76, 277)))]) (m' := (f, l)) rfl rfl (fl_bo rfl) rfl ?_
    refine fl_Tq.stp (pc' := 15) (lv' := [some (.inr (.inr (.inl (76, 277))))]) (st' := [.inr (.inr (.inl (76, 277))), .inr (.inr (.inl (76, 277)))]) (m' := (f, l)) rfl rfl (fl_bo rfl) rfl ?_
    refine fl_Tq.stp (pc' := 16) (lv' := [some (.inr (.inr (.inl (76, 277))))]) (st' := [.inr (.inr (.inl (76, 277))), .inr (.inr (.inl (76, 277))), .inr (.inr (.inl (76, 277)))]) (m' := (f, l)) rfl rfl (fl_bo rfl) rfl ?_
    refine fl_Tq.stp (pc' := 19) (lv' := [some (.inr (.inr (.inl (76, 277))))]) (st' := [.inr (.inr (.inl (79, 280))), .inr (.inr (.inl (76, 277))), .inr (.inr (.inl (76, 277)))]) (m' := (f, l)) rfl rfl (fl_bo rfl) rfl ?_
    refine fl_Tq.cI (c := (2 : Int32)) rfl (by decide +kernel) (fl_bo rfl) ?_
    refine fl_Tq.ldV (p := 280) (τ := 79) (n := 29780) (z := (0, 0, 0)) (k := 2) (v := f 280 2) rfl (fl_bo rfl) rfl (by decide +kernel) (by decide) rfl ?_
    refine fl_Tq.cI (c := (2 : Int32)) rfl (by decide +kernel) (fl_bo rfl) ?_
    refine fl_Tq.dv rfl (fl_bo rfl) (by decide +kernel) ?_
    exact k1 h1
theorem y_mid_B_p36 {L : Nat} {xs : Nat → Int32} {f : t2_F} {l : t2_L} {Q : Option fl_V → fl_M → Prop} {z : Int32} {A : Nat} (hA : z.toInt = (A : Int)) (hA1 : A < 16) (hAn : (A : Int) < (f 280 2).toInt) (hk : ∀ C : Nat, (C : Int) < (f 280 2).toInt → t2_ck f C) (k : Q (some (.inl (r_partOf_v f z A))) (f, l)) : fl_Tq (pw_P L xs) 296 26 [some (.inr (.inr (.inl (76, 277))))] [.inl z, .inr (.inr (.inl (76, 277)))] (f, l) Q := by
  refine fl_Tq.cal rfl rfl (fl_bo rfl) rfl ?_
  refine r_partOf_q hA hA1 (hk A (by omega)) ?_
  show fl_Tq _ 296 29 [some (.inr (.inr (.inl (76, 277))))] [.inl (r_partOf_v f z A)] (f, l) _
  exact fl_Tq.ret rfl rfl rfl k
theorem x_middle_A {L : Nat} {xs : Nat → Int32} {f : t2_F} {l : t2_L} {Q : Option fl_V → fl_M → Prop}   (k : fl_Tq (pw_P L xs) 137 4 [some (.inr (.inr (.inl (0, 0))))] [.inr (.inr (.inl (1, 1)))] (f, l) Q) : fl_Tq (pw_P L xs) 137 0 [some (.inr (.inr (.inl (0, 0))))] [] (f, l) Q := by
  refine fl_Tq.stp (pc' := 1) (lv' := [some (.inr (.inr (.inl (0, 0))))]) (st' := [.inr (.inr (.inl (0, 0)))]) (m' := (f, l)) rfl rfl (fl_bo rfl) rfl ?_
  refine fl_Tq.stp (pc' := 4) (lv' := [some (.inr (.inr (.inl (0, 0))))]) (st' := [.inr (.inr (.inl (1, 1)))]) (m' := (f, l)) rfl rfl (fl_bo rfl) rfl ?_
  exact k
theorem x_middle_B {L : Nat} {xs : Nat → Int32} {f : t2_F} {l : t2_L} {Q : Option fl_V → fl_M → Prop} {z : Int32}  (k : Q (some (.inl z)) (f, l)) : fl_Tq (pw_P L xs) 137 7 [some (.inr (.inr (.inl (0, 0))))] [.inl z] (f, l) Q := by
  exact fl_Tq.ret rfl rfl rfl k
theorem t2_rk_p36 {x y : Int} {p : Prop} [Decidable p] : (if (if x = y then (if p then (1 : Int32) else (0 : Int32)) else (0 : Int32)).toInt = 0 then (if y < x then (1 : Int32) else (0 : Int32)) else (1 : Int32)) = (if y < x then (1 : Int32) else (if x = y then (if p then (1 : Int32) else (0 : Int32)) else (0 : Int32))) := by
  have z0 : (0 : Int32).toInt = 0 := rfl
  have z1 : ¬ ((1 : Int32).toInt = 0) := by decide +kernel
  by_cases h2 : x = y
  · have h1 : ¬ y < x := by omega
    by_cases h3 : p
    · simp only [if_pos h2, if_neg h1, if_pos h3, if_neg z1]
    · simp only [if_pos h2, if_neg h1, if_neg h3, if_pos z0]
  · simp only [if_neg h2, if_pos z0]
section T2RANK
variable {L : Nat} {xs : Nat → Int32} {f : t2_F} {l : t2_L} {Q : Option fl_V → fl_M → Prop} {a x : Int32} {C : Nat}
/-- how many stand ahead of a cell, both count alike -/
theorem c0_place_e_p36 (I : c0_I f f) (hC : C < (f 280 2).toInt.toNat) : c0_placeOf_v f (Int32.ofNat C) = y_rank_B_a17_p36 f a C ((f 280 2).toInt.toNat) := by
  have n16 := I.rhu.1
  have eC : (Int32.ofNat C).toInt = (C : Int) := at_ofN (by omega)
  have a1 : ∀ k : Nat, k ≤ (f 280 2).toInt.toNat → c0_placeOf_a15 f (Int32.ofNat C) k = y_rank_B_a17_p36 f a C k := by
    intro k
    induction k with
    | zero => intro _; rfl
    | succ k ih =>
      intro hk
      show c0_placeOf_a15 f (Int32.ofNat C) k + (if (if (f (18 + 4 * k) 3).toInt = (f (18 + 4 * (Int32.ofNat C).toInt.toNat) 3).toInt then (if (Int32.ofNat k).toInt < (Int32.ofNat C).toInt then (1 : Int32) else (0 : Int32)) else (0 : Int32)).toInt = 0 then (if (f (18 + 4 * (Int32.ofNat C).toInt.toNat) 3).toInt < (f (18 + 4 * k) 3).toInt then (1 : Int32) else (0 : Int32)) else (1 : Int32)) = y_rank_B_a17_p36 f a C k + (if (r_partOf_v f (Int32.ofNat C) C).toInt < (r_partOf_v f (Int32.ofNat k) k).toInt then (1 : Int32) else (if (r_partOf_v f (Int32.ofNat k) k).toInt = (r_partOf_v f (Int32.ofNat C) C).toInt then (if (Int32.ofNat k).toInt < (Int32.ofNat C).toInt then (1 : Int32) else (0 : Int32)) else (0 : Int32)))
      rw [ih (by omega), t2_rk_p36, show (Int32.ofNat C).toInt.toNat = C by omega, I.part (C := k) (by omega) (Int32.ofNat k), I.part hC (Int32.ofNat C)]
  unfold c0_placeOf_v
  rw [show (f 1 5) = f 280 2 from I.1.1.1]
  exact a1 _ (Nat.le_refl _)
theorem y_rank_ct_p36 (hC : C < 16) : ∀ k : Nat, k ≤ 16 → y_rank_B_a17_p36 f a C k = Int32.ofNat (at_ct (at_bf (fun e => (r_partOf_v f 0 e).toInt) C) k) := by
  have eC : (Int32.ofNat C).toInt = (C : Int) := at_ofN (by omega)
  intro k
  induction k with
  | zero => intro _; rfl
  | succ k ih =>
    intro hk
    have ek : (Int32.ofNat k).toInt = (k : Int) := at_ofN (by omega)
    have hle := at_ct_le (at_bf (fun e => (r_partOf_v f 0 e).toInt) C) k
    have s : y_rank_B_a17_p36 f a C (k + 1) = y_rank_B_a17_p36 f a C k + (if (r_partOf_v f 0 C).toInt < (r_partOf_v f 0 k).toInt then (1 : Int32) else (if (r_partOf_v f 0 k).toInt = (r_partOf_v f 0 C).toInt then (if (Int32.ofNat k).toInt < (Int32.ofNat C).toInt then (1 : Int32) else (0 : Int32)) else (0 : Int32))) := rfl
    have e1 : Int32.ofNat (at_ct (at_bf (fun e => (r_partOf_v f 0 e).toInt) C) k) + (1 : Int32) = Int32.ofNat (at_ct (at_bf (fun e => (r_partOf_v f 0 e).toInt) C) k + 1) := t2_k1 _
    have e0 : Int32.ofNat (at_ct (at_bf (fun e => (r_partOf_v f 0 e).toInt) C) k) + (0 : Int32) = Int32.ofNat (at_ct (at_bf (fun e => (r_partOf_v f 0 e).toInt) C) k) := Int32.add_zero _
    rw [s, ih (by omega), ek, eC]
    show _ = Int32.ofNat (at_ct (at_bf (fun e => (r_partOf_v f 0 e).toInt) C) k + (if at_bf (fun e => (r_partOf_v f 0 e).toInt) C k then 1 else 0))
    by_cases h1 : (r_partOf_v f 0 C).toInt < (r_partOf_v f 0 k).toInt
    · have hb : at_bf (fun e => (r_partOf_v f 0 e).toInt) C k = true := by
        unfold at_bf
        rw [decide_eq_true h1]
        rfl
      rw [if_pos h1, hb, e1]
      rfl
    · by_cases h2 : (r_partOf_v f 0 k).toInt = (r_partOf_v f 0 C).toInt
      · by_cases h3 : k < C
        · have hb : at_bf (fun e => (r_partOf_v f 0 e).toInt) C k = true := by
            unfold at_bf
            rw [decide_eq_false h1, decide_eq_true h2, decide_eq_true h3]
            rfl
          rw [if_neg h1, if_pos h2, if_pos (by omega), hb, e1]
          rfl
        · have hb : at_bf (fun e => (r_partOf_v f 0 e).toInt) C k = false := by
            unfold at_bf
            rw [decide_eq_false h1, decide_eq_true h2, decide_eq_false h3]
            rfl
          rw [if_neg h1, if_pos h2, if_neg (by omega), hb, e0]
          rfl
      · have hb : at_bf (fun e => (r_partOf_v f 0 e).toInt) C k = false := by
          unfold at_bf
          rw [decide_eq_false h1, decide_eq_false h2]
          rfl
        rw [if_neg h1, if_neg h2, hb, e0]
        rfl
theorem c0_rank_e2_p36 : ∀ k : Nat, (c0_rankedCell_e2 f x k = none → ∀ c : Nat, c < k → (c0_placeOf_v f (Int32.ofNat c)).toInt ≠ x.toInt) ∧ ∀ r : Int32, c0_rankedCell_e2 f x k = some r → ∃ c : Nat, c < k ∧ r = Int32.ofNat c := by
  intro k
  induction k with
  | zero => exact ⟨fun _ c hc => absurd hc (by omega), fun r h => by cases h⟩
  | succ k ih =>
    have s : c0_rankedCell_e2 f x (k + 1) = match c0_rankedCell_e2 f x k with
      | some r => some r
      | none => if (c0_placeOf_v f (Int32.ofNat k)).toInt = x.toInt then some (Int32.ofNat k) else none := rfl
    rw [s]
    cases he : c0_rankedCell_e2 f x k with
    | some r =>
      refine ⟨fun h => (by cases h), fun r' h => ?_⟩
      obtain ⟨c, hc, e⟩ := ih.2 r he
      cases h
      exact ⟨c, by omega, e⟩
    | none =>
      have i := ih.1 he
      by_cases hp : (c0_placeOf_v f (Int32.ofNat k)).toInt = x.toInt
      · refine ⟨fun h => ?_, fun r' h => ?_⟩
        · dsimp only at h
          rw [if_pos hp] at h
          cases h
        · dsimp only at h
          rw [if_pos hp] at h
          cases h
          exact ⟨k, by omega, rfl⟩
      · refine ⟨fun _ c hc => ?_, fun r' h => ?_⟩
        · rcases (by omega : c < k ∨ c = k) with h2 | rfl
          · exact i c h2
          · exact hp
        · dsimp only at h
          rw [if_neg hp] at h
          cases h
/-- each rank is some cell's -/
theorem c0_rank_ex_p36 (I : c0_I f f) {A : Nat} (hx : x.toInt = (A : Int)) (hA : A < (f 280 2).toInt.toNat) : ∃ c : Nat, c < (f 280 2).toInt.toNat ∧ c0_rankedCell_v f x = Int32.ofNat c := by
  have n16 := I.rhu.1
  unfold c0_rankedCell_v
  rw [show (f 1 5) = f 280 2 from I.1.1.1]
  obtain ⟨h1, h2⟩ := c0_rank_e2_p36 (f := f) (x := x) ((f 280 2).toInt.toNat)
  cases he : c0_rankedCell_e2 f x ((f 280 2).toInt.toNat) with
  | some r => exact h2 r he
  | none =>
    obtain ⟨c, hc, e⟩ := at_rank_ex (fun e => (r_partOf_v f 0 e).toInt) ((f 280 2).toInt.toNat) A hA
    refine absurd ?_ (h1 he c hc)
    rw [c0_place_e_p36 (a := 0) I hc, y_rank_ct_p36 (by omega) _ (by omega), e, hx, at_ofN (by omega)]
/-- the reference's rank -/
theorem y_rank_q_p36 (I : c0_I f f) (k : Q (some (.inl (c0_rankedCell_v f a))) (f, l)) : fl_Tq (pw_P L xs) 295 0 (fl_args (am_mxl (pw_P L xs) 295) [at_this, .inl a]) [] (f, l) Q := by
  have n16 := I.rhu.1
  have hk := I.rhu.2
  have e5 : f 1 5 = f 280 2 := I.1.1.1
  have hm2 : ∀ (k : Nat) (r : Int32), c0_rankedCell_e2 f a k = some r → c0_rankedCell_e2 f a (k + 1) = some r := fun k r e => by
    unfold c0_rankedCell_e2
    rw [e]
  have hs : ∀ C : Nat, C < (f 1 5).toInt.toNat → c0_rankedCell_e2 f a C = none → (c0_rankedCell_e2 f a (C + 1) = none → fl_Tq (pw_P L xs) 295 2 [some (.inr (.inr (.inl (76, 277)))), some (.inl a), some (.inl (Int32.ofNat (C + 1))), none, none] [] (f, l) Q) → fl_Tq (pw_P L xs) 295 2 [some (.inr (.inr (.inl (76, 277)))), some (.inl a), some (.inl (Int32.ofNat C)), none, none] [] (f, l) Q := by
    intro C hC he hS
    rw [e5] at hC
    have eC : (Int32.ofNat C).toInt = (C : Int) := at_ofN (by omega)
    refine y_rank_B_p36 (by omega) (by omega) n16 hk (by omega) ?_
    rw [← c0_place_e_p36 I hC]
    refine y_rank_C_p36 (fun h1 => ?_) (fun h1 => ?_)
    · have ee : c0_rankedCell_e2 f a (C + 1) = some (Int32.ofNat C) := by
        unfold c0_rankedCell_e2
        rw [he]
        simp only [if_pos h1]
      have en : c0_rankedCell_e2 f a ((f 1 5).toInt.toNat) = some (Int32.ofNat C) := t2_Em hm2 ee (by rw [e5]; omega)
      unfold c0_rankedCell_v at k
      simp only [en] at k
      exact k
    · have ee : c0_rankedCell_e2 f a (C + 1) = none := by
        unfold c0_rankedCell_e2
        rw [he]
        simp only [if_neg h1]
      have hS := hS ee
      rw [← t2_k1] at hS
      exact fl_Tq.fg hS ⟨rfl, rfl, rfl, True.intro⟩
  refine y_rank_A_p36 ?_
  refine t2_forE (E := c0_rankedCell_e2 f a) (S := fun C => fl_Tq (pw_P L xs) 295 2 [some (.inr (.inr (.inl (76, 277)))), some (.inl a), some (.inl (Int32.ofNat C)), none, none] [] (f, l) Q) hs rfl (fun en2 => ?_)
  have eC : (Int32.ofNat (f 1 5).toInt.toNat).toInt = (((f 1 5).toInt.toNat : Nat) : Int) := at_ofN (by rw [e5]; omega)
  refine y_rank_D_p36 (by rw [eC, e5]; omega) ?_
  unfold c0_rankedCell_v at k
  simp only [en2] at k
  exact k
end T2RANK
/-- the middle part -/
theorem t2_midv_p36 {L : Nat} {xs : Nat → Int32} {f : t2_F} {l : t2_L} (I : c0_I f f) : ∃ v : Int32, (∀ Q : Option fl_V → fl_M → Prop, Q (some (.inl v)) (f, l) → fl_Tq (pw_P L xs) 48 0 (fl_args (am_mxl (pw_P L xs) 48) [.inr (.inr (.inl (1, 1)))]) [] (f, l) Q) ∧ ∀ Q : Option fl_V → fl_M → Prop, Q (some (.inl v)) (f, l) → fl_Tq (pw_P L xs) 296 0 (fl_args (am_mxl (pw_P L xs) 296) [at_this]) [] (f, l) Q := by
  have n16 := I.rhu.1
  have e5 : f 1 5 = f 280 2 := I.1.1.1
  have cm : (-1 : Int32).toInt = -1 := by decide +kernel
  have c2 : (2 : Int32).toInt = 2 := by decide +kernel
  by_cases h : (f 280 2).toInt = 0
  · refine ⟨(-1 : Int32), fun Q k => ?_, fun Q k => ?_⟩
    · refine x_mid_A_p36 I.hc (fun _ => k) (fun h1 => absurd ?_ h1)
      have e : c0_rankedCell_v f (f 1 5 / (2 : Int32)) = (-1 : Int32) := by
        unfold c0_rankedCell_v
        rw [show (f 1 5).toInt.toNat = 0 by rw [e5]; omega]
        rfl
      rw [e]
    · exact y_mid_A_p36 (fun _ => k) (fun h1 => absurd h h1)
  · have d : (f 280 2 / (2 : Int32)).toInt = (f 280 2).toInt / 2 := by rw [at_div32 n16.1 (by omega), c2]
    obtain ⟨A, hA⟩ : ∃ A : Nat, (f 280 2 / (2 : Int32)).toInt = (A : Int) := t2_nat (by omega)
    obtain ⟨c, hc, e⟩ := c0_rank_ex_p36 I hA (by omega)
    have ec : (Int32.ofNat c).toInt = (c : Int) := at_ofN (by omega)
    refine ⟨f (18 + 4 * c) 3, fun Q k => ?_, fun Q k => ?_⟩
    · refine x_mid_A_p36 I.hc (fun h1 => ?_) (fun _ => ?_)
      · rw [e5, e, ec, cm] at h1
        omega
      · rw [e5, e]
        exact x_mid_B_p36 ec (by omega) k
    · refine y_mid_A_p36 (fun h1 => absurd h1 h) (fun _ => ?_)
      refine fl_Tq.cal rfl rfl (fl_bo rfl) rfl ?_
      refine y_rank_q_p36 I ?_
      rw [e]
      refine y_mid_B_p36 ec (by omega) (by omega) I.rhu.2 ?_
      rw [← I.part hc (Int32.ofNat c)]
      exact k
/-! ===== middle, on both sides ===== -/
theorem t2_cmp_36 {L : Nat} {xs : Nat → Int32} {f : t2_F} {l : t2_L} (_hall : ∀ c ∈ at_CM ++ at_CA, at_Valid at_XI (pw_P L xs) c) (hg : t2_Z (f, l)) : fl_Tq (pw_P L xs) 137 0 (fl_args (am_mxl (pw_P L xs) 137) [lx_x]) [] (f, l) (t2_End L xs 296 [at_this]) := by
  obtain ⟨v, h1, h2⟩ := t2_midv_p36 (L := L) (xs := xs) (l := l) hg.2.1
  refine t2_qq (y := v) hg (fun Q k => x_middle_A ?_) (fun Q k => h2 Q k)
  refine fl_Tq.cal rfl rfl (fl_bo rfl) rfl ?_
  exact h1 _ (x_middle_B k)

end

/-! 95.05.15p37.lean.txt -/
section
theorem y_rank_A {L : Nat} {xs : Nat → Int32} {f : t2_F} {l : t2_L} {Q : Option fl_V → fl_M → Prop} {a : Int32}  (k : fl_Tq (pw_P L xs) 295 2 [some (.inr (.inr (.inl (76, 277)))), some (.inl a), some (.inl (0 : Int32)), none, none] [] (f, l) Q) : fl_Tq (pw_P L xs) 295 0 [some (.inr (.inr (.inl (76, 277)))), some (.inl a), none, none, none] [] (f, l) Q := by
  refine fl_Tq.cI (c := (0 : Int32)) rfl (by decide +kernel) (fl_bo rfl) ?_
  refine fl_Tq.stp (pc' := 2) (lv' := [some (.inr (.inr (.inl (76, 277)))), some (.inl a), some (.inl (0 : Int32)), none, none]) (st' := []) (m' := (f, l)) rfl rfl (fl_bo rfl) rfl ?_
  exact k
noncomputable def y_rank_B_a17 (f : t2_F) (a : Int32) (E : Nat) : Nat → Int32
  | 0 => (0 : Int32)
  | k17 + 1 => (y_rank_B_a17 f a E k17) + (if (r_partOf_v f (Int32.ofNat E) E).toInt < (r_partOf_v f (Int32.ofNat k17) k17).toInt then (1 : Int32) else (if (r_partOf_v f (Int32.ofNat k17) k17).toInt = (r_partOf_v f (Int32.ofNat E) E).toInt then (if (Int32.ofNat k17).toInt < (Int32.ofNat E).toInt then (1 : Int32) else (0 : Int32)) else (0 : Int32)))
theorem y_rank_B {L : Nat} {xs : Nat → Int32} {f : t2_F} {l : t2_L} {Q : Option fl_V → fl_M → Prop} {a : Int32} {E : Nat} (hC : E < 16) (hCn : (E : Int) < (f 280 2).toInt) (hn : 0 ≤ (f 280 2).toInt ∧ (f 280 2).toInt ≤ 16) (hk : ∀ C : Nat, (C : Int) < (f 280 2).toInt → t2_ck f C) (hkk : (Int32.ofNat E).toInt < (f 280 2).toInt) (k : fl_Tq (pw_P L xs) 295 76 [some (.inr (.inr (.inl (76, 277)))), some (.inl a), some (.inl (Int32.ofNat E)), some (.inl (y_rank_B_a17 f a E ((f 280 2).toInt.toNat))), some (.inl (Int32.ofNat ((f 280 2).toInt.toNat)))] [] (f, l) Q) : fl_Tq (pw_P L xs) 295 2 [some (.inr (.inr (.inl (76, 277)))), some (.inl a), some (.inl (Int32.ofNat E)), none, none] [] (f, l) Q := by
  refine fl_Tq.stp (pc' := 3) (lv' := [some (.inr (.inr (.inl (76, 277)))), some (.inl a), some (.inl (Int32.ofNat E)), none, none]) (st' := [.inl (Int32.ofNat E)]) (m' := (f, l)) rfl rfl (fl_bo rfl) rfl ?_
  refine fl_Tq.stp (pc' := 4) (lv' := [some (.inr (.inr (.inl (76, 277)))), some (.inl a), some (.inl (Int32.ofNat E)), none, none]) (st' := [.inr (.inr (.inl (76, 277))), .inl (Int32.ofNat E)]) (m' := (f, l)) rfl rfl (fl_bo rfl) rfl ?_
  refine fl_Tq.stp (pc' := 7) (lv' := [some (.inr (.inr (.inl (76, 277)))), some (.inl a), some (.inl (Int32.ofNat E)), none, none]) (st' := [.inr (.inr (.inl (79, 280))), .inl (Int32.ofNat E)]) (m' := (f, l)) rfl rfl (fl_bo rfl) rfl ?_
  refine fl_Tq.cI (c := (2 : Int32)) rfl (by decide +kernel) (fl_bo rfl) ?_
  refine fl_Tq.ldV (p := 280) (τ := 79) (n := 29780) (z := (0, 0, 0)) (k := 2) (v := f 280 2) rfl (fl_bo rfl) rfl (by decide +kernel) (by decide) rfl ?_
  refine fl_Tq.jf rfl (fl_bo rfl) (c2_ge_f hkk) rfl ?_
  refine fl_Tq.cI (c := (0 : Int32)) rfl (by decide +kernel) (fl_bo rfl) ?_
  refine fl_Tq.stp (pc' := 14) (lv' := [some (.inr (.inr (.inl (76, 277)))), some (.inl a), some (.inl (Int32.ofNat E)), some (.inl (0 : Int32)), none]) (st' := []) (m' := (f, l)) rfl rfl (fl_bo rfl) rfl ?_
  refine fl_Tq.cI (c := (0 : Int32)) rfl (by decide +kernel) (fl_bo rfl) ?_
  refine fl_Tq.stp (pc' := 17) (lv' := [some (.inr (.inr (.inl (76, 277)))), some (.inl a), some (.inl (Int32.ofNat E)), some (.inl (0 : Int32)), some (.inl (0 : Int32))]) (st' := []) (m' := (f, l)) rfl rfl (fl_bo rfl) rfl ?_
  have hs17 : ∀ k17 : Nat, k17 < (f 280 2).toInt.toNat → fl_Tq (pw_P L xs) 295 17 [some (.inr (.inr (.inl (76, 277)))), some (.inl a), some (.inl (Int32.ofNat E)), some (.inl (y_rank_B_a17 f a E (k17 + 1))), some (.inl (Int32.ofNat (k17 + 1)))] [] (f, l) Q → fl_Tq (pw_P L xs) 295 17 [some (.inr (.inr (.inl (76, 277)))), some (.inl a), some (.inl (Int32.ofNat E)), some (.inl (y_rank_B_a17 f a E k17)), some (.inl (Int32.ofNat k17))] [] (f, l) Q := by
    intro k17 hk17 hS
    refine fl_Tq.stp (pc' := 19) (lv' := [some (.inr (.inr (.inl (76, 277)))), some (.inl a), some (.inl (Int32.ofNat E)), some (.inl (y_rank_B_a17 f a E k17)), some (.inl (Int32.ofNat k17))]) (st' := [.inl (Int32.ofNat k17)]) (m' := (f, l)) rfl rfl (fl_bo rfl) rfl ?_
    refine fl_Tq.stp (pc' := 20) (lv' := [some (.inr (.inr (.inl (76, 277)))), some (.inl a), some (.inl (Int32.ofNat E)), some (.inl (y_rank_B_a17 f a E k17)), some (.inl (Int32.ofNat k17))]) (st' := [.inr (.inr (.inl (76, 277))), .inl (Int32.ofNat k17)]) (m' := (f, l)) rfl rfl (fl_bo rfl) rfl ?_
    refine fl_Tq.stp (pc' := 23) (lv' := [some (.inr (.inr (.inl (76, 277)))), some (.inl a), some (.inl (Int32.ofNat E)), some (.inl (y_rank_B_a17 f a E k17)), some (.inl (Int32.ofNat k17))]) (st' := [.inr (.inr (.inl (79, 280))), .inl (Int32.ofNat k17)]) (m' := (f, l)) rfl rfl (fl_bo rfl) rfl ?_
    refine fl_Tq.cI (c := (2 : Int32)) rfl (by decide +kernel) (fl_bo rfl) ?_
    refine fl_Tq.ldV (p := 280) (τ := 79) (n := 29780) (z := (0, 0, 0)) (k := 2) (v := f 280 2) rfl (fl_bo rfl) rfl (by decide +kernel) (by decide) rfl ?_
    refine fl_Tq.jf rfl (fl_bo rfl) (c2_ge_f (t2_lk hk17 (t2_nn hn.1))) rfl ?_
    refine fl_Tq.stp (pc' := 29) (lv' := [some (.inr (.inr (.inl (76, 277)))), some (.inl a), some (.inl (Int32.ofNat E)), some (.inl (y_rank_B_a17 f a E k17)), some (.inl (Int32.ofNat k17))]) (st' := [.inl (y_rank_B_a17 f a E k17)]) (m' := (f, l)) rfl rfl (fl_bo rfl) rfl ?_
    refine fl_Tq.stp (pc' := 30) (lv' := [some (.inr (.inr (.inl (76, 277)))), some (.inl a), some (.inl (Int32.ofNat E)), some (.inl (y_rank_B_a17 f a E k17)), some (.inl (Int32.ofNat k17))]) (st' := [.inr (.inr (.inl (76, 277))), .inl (y_rank_B_a17 f a E k17)]) (m' := (f, l)) rfl rfl (fl_bo rfl) rfl ?_
    refine fl_Tq.stp (pc' := 32) (lv' := [some (.inr (.inr (.inl (76, 277)))), some (.inl a), some (.inl (Int32.ofNat E)), some (.inl (y_rank_B_a17 f a E k17)), some (.inl (Int32.ofNat k17))]) (st' := [.inl (Int32.ofNat k17), .inr (.inr (.inl (76, 277))), .inl (y_rank_B_a17 f a E k17)]) (m' := (f, l)) rfl rfl (fl_bo rfl) rfl ?_
    refine fl_Tq.cal rfl rfl (fl_bo rfl) rfl ?_
    refine r_partOf_q (at_ofN (by omega)) (by omega) (hk k17 (by omega)) ?_
    show fl_Tq _ 295 35 [some (.inr (.inr (.inl (76, 277)))), some (.inl a), some (.inl (Int32.ofNat E)), some (.inl (y_rank_B_a17 f a E k17)), some (.inl (Int32.ofNat k17))] [.inl (r_partOf_v f (Int32.ofNat k17) k17), .inl (y_rank_B_a17 f a E k17)] (f, l) _
    refine fl_Tq.stp (pc' := 36) (lv' := [some (.inr (.inr (.inl (76, 277)))), some (.inl a), some (.inl (Int32.ofNat E)), some (.inl (y_rank_B_a17 f a E k17)), some (.inl (Int32.ofNat k17))]) (st' := [.inr (.inr (.inl (76, 277))), .inl (r_partOf_v f (Int32.ofNat k17) k17), .inl (y_rank_B_a17 f a E k17)]) (m' := (f, l)) rfl rfl (fl_bo rfl) rfl ?_
    refine fl_Tq.stp (pc' := 37) (lv' := [some (.inr (.inr (.inl (76, 277)))), some (.inl a), some (.inl (Int32.ofNat E)), some (.inl (y_rank_B_a17 f a E k17)), some (.inl (Int32.ofNat k17))]) (st' := [.inl (Int32.ofNat E), .inr (.inr (.inl (76, 277))), .inl (r_partOf_v f (Int32.ofNat k17) k17), .inl (y_rank_B_a17 f a E k17)]) (m' := (f, l)) rfl rfl (fl_bo rfl) rfl ?_
    refine fl_Tq.cal rfl rfl (fl_bo rfl) rfl ?_
    refine r_partOf_q (at_ofN (by omega)) (by omega) (hk E (by omega)) ?_
    show fl_Tq _ 295 40 [some (.inr (.inr (.inl (76, 277)))), some (.inl a), some (.inl (Int32.ofNat E)), some (.inl (y_rank_B_a17 f a E k17)), some (.inl (Int32.ofNat k17))] [.inl (r_partOf_v f (Int32.ofNat E) E), .inl (r_partOf_v f (Int32.ofNat k17) k17), .inl (y_rank_B_a17 f a E k17)] (f, l) _
    have hj190 : fl_Tq (pw_P L xs) 295 68 [some (.inr (.inr (.inl (76, 277)))), some (.inl a), some (.inl (Int32.ofNat E)), some (.inl (y_rank_B_a17 f a E k17)), some (.inl (Int32.ofNat k17))] [.inl (if (r_partOf_v f (Int32.ofNat E) E).toInt < (r_partOf_v f (Int32.ofNat k17) k17).toInt then (1 : Int32) else (if (r_partOf_v f (Int32.ofNat k17) k17).toInt = (r_partOf_v f (Int32.ofNat E) E).toInt then (if (Int32.ofNat k17).toInt < (Int32.ofNat E).toInt then (1 : Int32) else (0 : Int32)) else (0 : Int32))), .inl (y_rank_B_a17 f a E k17)] (f, l) Q → fl_Tq (pw_P L xs) 295 40 [some (.inr (.inr (.inl (76, 277)))), some (.inl a), some (.inl (Int32.ofNat E)), some (.inl (y_rank_B_a17 f a E k17)), some (.inl (Int32.ofNat k17))] [.inl (r_partOf_v f (Int32.ofNat E) E), .inl (r_partOf_v f (Int32.ofNat k17) k17), .inl (y_rank_B_a17 f a E k17)] (f, l) Q := by
      intro hJ
      by_cases h1 : (r_partOf_v f (Int32.ofNat E) E).toInt < (r_partOf_v f (Int32.ofNat k17) k17).toInt
      · refine fl_Tq.jt rfl (fl_bo rfl) (c2_gt_t h1) rfl ?_
        refine fl_Tq.cI (c := (1 : Int32)) rfl (by decide +kernel) (fl_bo rfl) ?_
        refine fl_Tq.stp (pc' := 68) (lv' := [some (.inr (.inr (.inl (76, 277)))), some (.inl a), some (.inl (Int32.ofNat E)), some (.inl (y_rank_B_a17 f a E k17)), some (.inl (Int32.ofNat k17))]) (st' := [.inl (1 : Int32), .inl (y_rank_B_a17 f a E k17)]) (m' := (f, l)) rfl rfl (fl_bo rfl) rfl ?_
        have e0 : (if (r_partOf_v f (Int32.ofNat E) E).toInt < (r_partOf_v f (Int32.ofNat k17) k17).toInt then (1 : Int32) else (if (r_partOf_v f (Int32.ofNat k17) k17).toInt = (r_partOf_v f (Int32.ofNat E) E).toInt then (if (Int32.ofNat k17).toInt < (Int32.ofNat E).toInt then (1 : Int32) else (0 : Int32)) else (0 : Int32))) = (1 : Int32) := by simp only [if_pos h1]
        rw [e0] at hJ
        exact hJ
      · refine fl_Tq.jf rfl (fl_bo rfl) (c2_gt_f h1) rfl ?_
        refine fl_Tq.stp (pc' := 44) (lv' := [some (.inr (.inr (.inl (76, 277)))), some (.inl a), some (.inl (Int32.ofNat E)), some (.inl (y_rank_B_a17 f a E k17)), some (.inl (Int32.ofNat k17))]) (st' := [.inr (.inr (.inl (76, 277))), .inl (y_rank_B_a17 f a E k17)]) (m' := (f, l)) rfl rfl (fl_bo rfl) rfl ?_
        refine fl_Tq.stp (pc' := 46) (lv' := [some (.inr (.inr (.inl (76, 277)))), some (.inl a), some (.inl (Int32.ofNat E)), some (.inl (y_rank_B_a17 f a E k17)), some (.inl (Int32.ofNat k17))]) (st' := [.inl (Int32.ofNat k17), .inr (.inr (.inl (76, 277))), .inl (y_rank_B_a17 f a E k17)]) (m' := (f, l)) rfl rfl (fl_bo rfl) rfl ?_
        refine fl_Tq.cal rfl rfl (fl_bo rfl) rfl ?_
        refine r_partOf_q (at_ofN (by omega)) (by omega) (hk k17 (by omega)) ?_
        show fl_Tq _ 295 49 [some (.inr (.inr (.inl (76, 277)))), some (.inl a), some (.inl (Int32.ofNat E)), some (.inl (y_rank_B_a17 f a E k17)), some (.inl (Int32.ofNat k17))] [.inl (r_partOf_v f (Int32.ofNat k17) k17), .inl (y_rank_B_a17 f a E k17)] (f, l) _
        refine fl_Tq.stp (pc' := 50) (lv' := [some (.inr (.inr (.inl (76, 277)))), some (.inl a), some (.inl (Int32.ofNat E)), some (.inl (y_rank_B_a17 f a E k17)), some (.inl (Int32.ofNat k17))]) (st' := [.inr (.inr (.inl (76, 277))), .inl (r_partOf_v f (Int32.ofNat k17) k17), .inl (y_rank_B_a17 f a E k17)]) (m' := (f, l)) rfl rfl (fl_bo rfl) rfl ?_
        refine fl_Tq.stp (pc' := 51) (lv' := [some (.inr (.inr (.inl (76, 277)))), some (.inl a), some (.inl (Int32.ofNat E)), some (.inl (y_rank_B_a17 f a E k17)), some (.inl (Int32.ofNat k17))]) (st' := [.inl (Int32.ofNat E), .inr (.inr (.inl (76, 277))), .inl (r_partOf_v f (Int32.ofNat k17) k17), .inl (y_rank_B_a17 f a E k17)]) (m' := (f, l)) rfl rfl (fl_bo rfl) rfl ?_
        refine fl_Tq.cal rfl rfl (fl_bo rfl) rfl ?_
        refine r_partOf_q (at_ofN (by omega)) (by omega) (hk E (by omega)) ?_
        show fl_Tq _ 295 54 [some (.inr (.inr (.inl (76, 277)))), some (.inl a), some (.inl (Int32.ofNat E)), some (.inl (y_rank_B_a17 f a E k17)), some (.inl (Int32.ofNat k17))] [.inl (r_partOf_v f (Int32.ofNat E) E), .inl (r_partOf_v f (Int32.ofNat k17) k17), .inl (y_rank_B_a17 f a E k17)] (f, l) _
        by_cases h2 : (r_partOf_v f (Int32.ofNat k17) k17).toInt = (r_partOf_v f (Int32.ofNat E) E).toInt
        · refine fl_Tq.jf rfl (fl_bo rfl) (c2_ne_f h2) rfl ?_
          refine fl_Tq.stp (pc' := 59) (lv' := [some (.inr (.inr (.inl (76, 277)))), some (.inl a), some (.inl (Int32.ofNat E)), some (.inl (y_rank_B_a17 f a E k17)), some (.inl (Int32.ofNat k17))]) (st' := [.inl (Int32.ofNat k17), .inl (y_rank_B_a17 f a E k17)]) (m' := (f, l)) rfl rfl (fl_bo rfl) rfl ?_
          refine fl_Tq.stp (pc' := 60) (lv' := [some (.inr (.inr (.inl (76, 277)))), some (.inl a), some (.inl (Int32.ofNat E)), some (.inl (y_rank_B_a17 f a E k17)), some (.inl (Int32.ofNat k17))]) (st' := [.inl (Int32.ofNat E), .inl (Int32.ofNat k17), .inl (y_rank_B_a17 f a E k17)]) (m' := (f, l)) rfl rfl (fl_bo rfl) rfl ?_
          by_cases h3 : (Int32.ofNat k17).toInt < (Int32.ofNat E).toInt
          · refine fl_Tq.jf rfl (fl_bo rfl) (c2_ge_f h3) rfl ?_
            refine fl_Tq.cI (c := (1 : Int32)) rfl (by decide +kernel) (fl_bo rfl) ?_
            refine fl_Tq.stp (pc' := 68) (lv' := [some (.inr (.inr (.inl (76, 277)))), some (.inl a), some (.inl (Int32.ofNat E)), some (.inl (y_rank_B_a17 f a E k17)), some (.inl (Int32.ofNat k17))]) (st' := [.inl (1 : Int32), .inl (y_rank_B_a17 f a E k17)]) (m' := (f, l)) rfl rfl (fl_bo rfl) rfl ?_
            have e0 : (if (r_partOf_v f (Int32.ofNat E) E).toInt < (r_partOf_v f (Int32.ofNat k17) k17).toInt then (1 : Int32) else (if (r_partOf_v f (Int32.ofNat k17) k17).toInt = (r_partOf_v f (Int32.ofNat E) E).toInt then (if (Int32.ofNat k17).toInt < (Int32.ofNat E).toInt then (1 : Int32) else (0 : Int32)) else (0 : Int32))) = (1 : Int32) := by simp only [if_neg h1, if_pos h2, if_pos h3]
            rw [e0] at hJ
            exact hJ
          · refine fl_Tq.jt rfl (fl_bo rfl) (c2_ge_t h3) rfl ?_
            refine fl_Tq.cI (c := (0 : Int32)) rfl (by decide +kernel) (fl_bo rfl) ?_
            have e0 : (if (r_partOf_v f (Int32.ofNat E) E).toInt < (r_partOf_v f (Int32.ofNat k17) k17).toInt then (1 : Int32) else (if (r_partOf_v f (Int32.ofNat k17) k17).toInt = (r_partOf_v f (Int32.ofNat E) E).toInt then (if (Int32.ofNat k17).toInt < (Int32.ofNat E).toInt then (1 : Int32) else (0 : Int32)) else (0 : Int32))) = (0 : Int32) := by simp only [if_neg h1, if_pos h2, if_neg h3]
            rw [e0] at hJ
            exact hJ
        · refine fl_Tq.jt rfl (fl_bo rfl) (c2_ne_t h2) rfl ?_
          refine fl_Tq.cI (c := (0 : Int32)) rfl (by decide +kernel) (fl_bo rfl) ?_
          have e0 : (if (r_partOf_v f (Int32.ofNat E) E).toInt < (r_partOf_v f (Int32.ofNat k17) k17).toInt then (1 : Int32) else (if (r_partOf_v f (Int32.ofNat k17) k17).toInt = (r_partOf_v f (Int32.ofNat E) E).toInt then (if (Int32.ofNat k17).toInt < (Int32.ofNat E).toInt then (1 : Int32) else (0 : Int32)) else (0 : Int32))) = (0 : Int32) := by simp only [if_neg h1, if_neg h2]
          rw [e0] at hJ
          exact hJ
    refine hj190 ?_
    show fl_Tq _ 295 68 [some (.inr (.inr (.inl (76, 277)))), some (.inl a), some (.inl (Int32.ofNat E)), some (.inl (y_rank_B_a17 f a E k17)), some (.inl (Int32.ofNat k17))] [.inl (if (r_partOf_v f (Int32.ofNat E) E).toInt < (r_partOf_v f (Int32.ofNat k17) k17).toInt then (1 : Int32) else (if (r_partOf_v f (Int32.ofNat k17) k17).toInt = (r_partOf_v f (Int32.ofNat E) E).toInt then (if (Int32.ofNat k17).toInt < (Int32.ofNat E).toInt then (1 : Int32) else (0 : Int32)) else (0 : Int32))), .inl (y_rank_B_a17 f a E k17)] (f, l) _
    refine fl_Tq.stp (pc' := 69) (lv' := [some (.inr (.inr (.inl (76, 277)))), some (.inl a), some (.inl (Int32.ofNat E)), some (.inl (y_rank_B_a17 f a E k17)), some (.inl (Int32.ofNat k17))]) (st' := [.inl ((y_rank_B_a17 f a E k17) + (if (r_partOf_v f (Int32.ofNat E) E).toInt < (r_partOf_v f (Int32.ofNat k17) k17).toInt then (1 : Int32) else (if (r_partOf_v f (Int32.ofNat k17) k17).toInt = (r_partOf_v f (Int32.ofNat E) E).toInt then (if (Int32.ofNat k17).toInt < (Int32.ofNat E).toInt then (1 : Int32) else (0 : Int32)) else (0 : Int32))))]) (m' := (f, l)) rfl rfl (fl_bo rfl) rfl ?_
    refine fl_Tq.stp (pc' := 70) (lv' := [some (.inr (.inr (.inl (76, 277)))), some (.inl a), some (.inl (Int32.ofNat E)), some (.inl ((y_rank_B_a17 f a E k17) + (if (r_partOf_v f (Int32.ofNat E) E).toInt < (r_partOf_v f (Int32.ofNat k17) k17).toInt then (1 : Int32) else (if (r_partOf_v f (Int32.ofNat k17) k17).toInt = (r_partOf_v f (Int32.ofNat E) E).toInt then (if (Int32.ofNat k17).toInt < (Int32.ofNat E).toInt then (1 : Int32) else (0 : Int32)) else (0 : Int32))))), some (.inl (Int32.ofNat k17))]) (st' := []) (m' := (f, l)) rfl rfl (fl_bo rfl) rfl ?_
    refine fl_Tq.stp (pc' := 73) (lv' := [some (.inr (.inr (.inl (76, 277)))), some (.inl a), some (.inl (Int32.ofNat E)), some (.inl ((y_rank_B_a17 f a E k17) + (if (r_partOf_v f (Int32.ofNat E) E).toInt < (r_partOf_v f (Int32.ofNat k17) k17).toInt then (1 : Int32) else (if (r_partOf_v f (Int32.ofNat k17) k17).toInt = (r_partOf_v f (Int32.ofNat E) E).toInt then (if (Int32.ofNat k17).toInt < (Int32.ofNat E).toInt then (1 : Int32) else (0 : Int32)) else (0 : Int32))))), some (.inl ((Int32.ofNat k17) + (1 : Int32)))]) (st' := []) (m' := (f, l)) rfl rfl (fl_bo rfl) rfl ?_
    refine fl_Tq.stp (pc' := 17) (lv' := [some (.inr (.inr (.inl (76, 277)))), some (.inl a), some (.inl (Int32.ofNat E)), some (.inl ((y_rank_B_a17 f a E k17) + (if (r_partOf_v f (Int32.ofNat E) E).toInt < (r_partOf_v f (Int32.ofNat k17) k17).toInt then (1 : Int32) else (if (r_partOf_v f (Int32.ofNat k17) k17).toInt = (r_partOf_v f (Int32.ofNat E) E).toInt then (if (Int32.ofNat k17).toInt < (Int32.ofNat E).toInt then (1 : Int32) else (0 : Int32)) else (0 : Int32))))), some (.inl ((Int32.ofNat k17) + (1 : Int32)))]) (st' := []) (m' := (f, l)) rfl rfl (fl_bo rfl) rfl ?_
    have ea : y_rank_B_a17 f a E (k17 + 1) = (y_rank_B_a17 f a E k17) + (if (r_partOf_v f (Int32.ofNat E) E).toInt < (r_partOf_v f (Int32.ofNat k17) k17).toInt then (1 : Int32) else (if (r_partOf_v f (Int32.ofNat k17) k17).toInt = (r_partOf_v f (Int32.ofNat E) E).toInt then (if (Int32.ofNat k17).toInt < (Int32.ofNat E).toInt then (1 : Int32) else (0 : Int32)) else (0 : Int32))) := by
      show ((y_rank_B_a17 f a E k17) + (if (r_partOf_v f (Int32.ofNat E) E).toInt < (r_partOf_v f (Int32.ofNat k17) k17).toInt then (1 : Int32) else (if (r_partOf_v f (Int32.ofNat k17) k17).toInt = (r_partOf_v f (Int32.ofNat E) E).toInt then (if (Int32.ofNat k17).toInt < (Int32.ofNat E).toInt then (1 : Int32) else (0 : Int32)) else (0 : Int32)))) = _
      rfl
    rw [ea, ← t2_k1] at hS
    exact hS
  refine t2_for (S := fun k17 => fl_Tq (pw_P L xs) 295 17 [some (.inr (.inr (.inl (76, 277)))), some (.inl a), some (.inl (Int32.ofNat E)), some (.inl (y_rank_B_a17 f a E k17)), some (.inl (Int32.ofNat k17))] [] (f, l) Q) hs17 ?_
  show fl_Tq (pw_P L xs) 295 17 [some (.inr (.inr (.inl (76, 277)))), some (.inl a), some (.inl (Int32.ofNat E)), some (.inl (y_rank_B_a17 f a E ((f 280 2).toInt.toNat))), some (.inl (Int32.ofNat ((f 280 2).toInt.toNat)))] [] (f, l) _
  refine fl_Tq.stp (pc' := 19) (lv' := [some (.inr (.inr (.inl (76, 277)))), some (.inl a), some (.inl (Int32.ofNat E)), some (.inl (y_rank_B_a17 f a E ((f 280 2).toInt.toNat))), some (.inl (Int32.ofNat ((f 280 2).toInt.toNat)))]) (st' := [.inl (Int32.ofNat ((f 280 2).toInt.toNat))]) (m' := (f, l)) rfl rfl (fl_bo rfl) rfl ?_
  refine fl_Tq.stp (pc' := 20) (lv' := [some (.inr (.inr (.inl (76, 277)))), some (.inl a), some (.inl (Int32.ofNat E)), some (.inl (y_rank_B_a17 f a E ((f 280 2).toInt.toNat))), some (.inl (Int32.ofNat ((f 280 2).toInt.toNat)))]) (st' := [.inr (.inr (.inl (76, 277))), .inl (Int32.ofNat ((f 280 2).toInt.toNat))]) (m' := (f, l)) rfl rfl (fl_bo rfl) rfl ?_
  refine fl_Tq.stp (pc' := 23) (lv' := [some (.inr (.inr (.inl (76, 277)))), some (.inl a), some (.inl (Int32.ofNat E)), some (.inl (y_rank_B_a17 f a E ((f 280 2).toInt.toNat))), some (.inl (Int32.ofNat ((f 280 2).toInt.toNat)))]) (st' := [.inr (.inr (.inl (79, 280))), .inl (Int32.ofNat ((f 280 2).toInt.toNat))]) (m' := (f, l)) rfl rfl (fl_bo rfl) rfl ?_
  refine fl_Tq.cI (c := (2 : Int32)) rfl (by decide +kernel) (fl_bo rfl) ?_
  refine fl_Tq.ldV (p := 280) (τ := 79) (n := 29780) (z := (0, 0, 0)) (k := 2) (v := f 280 2) rfl (fl_bo rfl) rfl (by decide +kernel) (by decide) rfl ?_
  refine fl_Tq.jt rfl (fl_bo rfl) (c2_ge_t (t2_ln (t2_nn hn.1))) rfl ?_
  exact k
theorem y_rank_C {L : Nat} {xs : Nat → Int32} {f : t2_F} {l : t2_L} {Q : Option fl_V → fl_M → Prop} {a z y : Int32} {E : Nat}  (k : (z.toInt = a.toInt) → Q (some (.inl (Int32.ofNat E))) (f, l)) (k1 : (¬ (z.toInt = a.toInt)) → fl_Tq (pw_P L xs) 295 2 [some (.inr (.inr (.inl (76, 277)))), some (.inl a), some (.inl ((Int32.ofNat E) + (1 : Int32))), some (.inl z), some (.inl y)] [] (f, l) Q) : fl_Tq (pw_P L xs) 295 76 [some (.inr (.inr (.inl (76, 277)))), some (.inl a), some (.inl (Int32.ofNat E)), some (.inl z), some (.inl y)] [] (f, l) Q := by
  refine fl_Tq.stp (pc' := 77) (lv' := [some (.inr (.inr (.inl (76, 277)))), some (.inl a), some (.inl (Int32.ofNat E)), some (.inl z), some (.inl y)]) (st' := [.inl z]) (m' := (f, l)) rfl rfl (fl_bo rfl) rfl ?_
  refine fl_Tq.stp (pc' := 78) (lv' := [some (.inr (.inr (.inl (76, 277)))), some (.inl a), some (.inl (Int32.ofNat E)), some (.inl z), some (.inl y)]) (st' := [.inl a, .inl z]) (m' := (f, l)) rfl rfl (fl_bo rfl) rfl ?_
  by_cases h1 : z.toInt = a.toInt
  · refine fl_Tq.jf rfl (fl_bo rfl) (c2_ne_f h1) rfl ?_
    refine fl_Tq.stp (pc' := 82) (lv' := [some (.inr (.inr (.inl (76, 277)))), some (.inl a), some (.inl (Int32.ofNat E)), some (.inl z), some (.inl y)]) (st' := [.inl (Int32.ofNat E)]) (m' := (f, l)) rfl rfl (fl_bo rfl) rfl ?_
    exact fl_Tq.ret rfl rfl rfl (k h1)
  · refine fl_Tq.jt rfl (fl_bo rfl) (c2_ne_t h1) rfl ?_
    refine fl_Tq.stp (pc' := 86) (lv' := [some (.inr (.inr (.inl (76, 277)))), some (.inl a), some (.inl ((Int32.ofNat E) + (1 : Int32))), some (.inl z), some (.inl y)]) (st' := []) (m' := (f, l)) rfl rfl (fl_bo rfl) rfl ?_
    refine fl_Tq.stp (pc' := 2) (lv' := [some (.inr (.inr (.inl (76, 277)))), some (.inl a), some (.inl ((Int32.ofNat E) + (1 : Int32))), some (.inl z), some (.inl y)]) (st' := []) (m' := (f, l)) rfl rfl (fl_bo rfl) rfl ?_
    exact k1 h1
theorem y_rank_D {L : Nat} {xs : Nat → Int32} {f : t2_F} {l : t2_L} {Q : Option fl_V → fl_M → Prop} {a : Int32} {E : Nat} (hkk : ¬ ((Int32.ofNat E).toInt < (f 280 2).toInt)) (k : Q (some (.inl (-1 : Int32))) (f, l)) : fl_Tq (pw_P L xs) 295 2 [some (.inr (.inr (.inl (76, 277)))), some (.inl a), some (.inl (Int32.ofNat E)), none, none] [] (f, l) Q := by
  refine fl_Tq.stp (pc' := 3) (lv' := [some (.inr (.inr (.inl (76, 277)))), some (.inl a), some (.inl (Int32.ofNat E)), none, none]) (st' := [.inl (Int32.ofNat E)]) (m' := (f, l)) rfl rfl (fl_bo rfl) rfl ?_
  refine fl_Tq.stp (pc' := 4) (lv' := [some (.inr (.inr (.inl (76, 277)))), some (.inl a), some (.inl (Int32.ofNat E)), none, none]) (st' := [.inr (.inr (.inl (76, 277))), .inl (Int32.ofNat E)]) (m' := (f, l)) rfl rfl (fl_bo rfl) rfl ?_
  refine fl_Tq.stp (pc' := 7) (lv' := [some (.inr (.inr (.inl (76, 277)))), some (.inl a), some (.inl (Int32.ofNat E)), none, none]) (st' := [.inr (.inr (.inl (79, 280))), .inl (Int32.ofNat E)]) (m' := (f, l)) rfl rfl (fl_bo rfl) rfl ?_
  refine fl_Tq.cI (c := (2 : Int32)) rfl (by decide +kernel) (fl_bo rfl) ?_
  refine fl_Tq.ldV (p := 280) (τ := 79) (n := 29780) (z := (0, 0, 0)) (k := 2) (v := f 280 2) rfl (fl_bo rfl) rfl (by decide +kernel) (by decide) rfl ?_
  refine fl_Tq.jt rfl (fl_bo rfl) (c2_ge_t hkk) rfl ?_
  refine fl_Tq.cI (c := (-1 : Int32)) rfl (by decide +kernel) (fl_bo rfl) ?_
  exact fl_Tq.ret rfl rfl rfl k
theorem x_mid_A {L : Nat} {xs : Nat → Int32} {f : t2_F} {l : t2_L} {Q : Option fl_V → fl_M → Prop}  (hc : 0 ≤ (f 1 5).toInt ∧ (f 1 5).toInt ≤ 16) (k : ((c0_rankedCell_v f ((f 1 5) / (2 : Int32))).toInt = (-1 : Int32).toInt) → Q (some (.inl (-1 : Int32))) (f, l)) (k1 : (¬ ((c0_rankedCell_v f ((f 1 5) / (2 : Int32))).toInt = (-1 : Int32).toInt)) → fl_Tq (pw_P L xs) 48 20 [some (.inr (.inr (.inl (1, 1)))), some (.inl (c0_rankedCell_v f ((f 1 5) / (2 : Int32))))] [] (f, l) Q) : fl_Tq (pw_P L xs) 48 0 [some (.inr (.inr (.inl (1, 1)))), none] [] (f, l) Q := by
  refine fl_Tq.stp (pc' := 1) (lv' := [some (.inr (.inr (.inl (1, 1)))), none]) (st' := [.inr (.inr (.inl (1, 1)))]) (m' := (f, l)) rfl rfl (fl_bo rfl) rfl ?_
  refine fl_Tq.stp (pc' := 2) (lv' := [some (.inr (.inr (.inl (1, 1)))), none]) (st' := [.inr (.inr (.inl (1, 1))), .inr (.inr (.inl (1, 1)))]) (m' := (f, l)) rfl rfl (fl_bo rfl) rfl ?_
  refine fl_Tq.gfV (k := 5) (v := f 1 5) rfl (fl_bo rfl) rfl rfl ?_
  refine fl_Tq.cI (c := (2 : Int32)) rfl (by decide +kernel) (fl_bo rfl) ?_
  refine fl_Tq.dv rfl (fl_bo rfl) (by decide +kernel) ?_
  refine fl_Tq.cal rfl rfl (fl_bo rfl) rfl ?_
  refine c0_rankedCell_q hc ?_
  show fl_Tq _ 48 10 [some (.inr (.inr (.inl (1, 1)))), none] [.inl (c0_rankedCell_v f ((f 1 5) / (2 : Int32)))] (f, l) _
  refine fl_Tq.stp (pc' := 11) (lv' := [some (.inr (.inr (.inl (1, 1)))), some (.inl (c0_rankedCell_v f ((f 1 5) / (2 : Int32))))]) (st' := []) (m' := (f, l)) rfl rfl (fl_bo rfl) rfl ?_
  refine fl_Tq.stp (pc' := 12) (lv' := [some (.inr (.inr (.inl (1, 1)))), some (.inl (c0_rankedCell_v f ((f 1 5) / (2 : Int32))))]) (st' := [.inl (c0_rankedCell_v f ((f 1 5) / (2 : Int32)))]) (m' := (f, l)) rfl rfl (fl_bo rfl) rfl ?_
  refine fl_Tq.cI (c := (-1 : Int32)) rfl (by decide +kernel) (fl_bo rfl) ?_
  by_cases h1 : (c0_rankedCell_v f ((f 1 5) / (2 : Int32))).toInt = (-1 : Int32).toInt
  · refine fl_Tq.jf rfl (fl_bo rfl) (c2_ne_f h1) rfl ?_
    refine fl_Tq.cI (c := (-1 : Int32)) rfl (by decide +kernel) (fl_bo rfl) ?_
    refine fl_Tq.stp (pc' := 29) (lv' := [some (.inr (.inr (.inl (1, 1)))), some (.inl (c0_rankedCell_v f ((f 1 5) / (2 : Int32))))]) (st' := [.inl (-1 : Int32)]) (m' := (f, l)) rfl rfl (fl_bo rfl) rfl ?_
    exact fl_Tq.ret rfl rfl rfl (k h1)
  · refine fl_Tq.jt rfl (fl_bo rfl) (c2_ne_t h1) rfl ?_
    exact k1 h1
theorem x_mid_B {L : Nat} {xs : Nat → Int32} {f : t2_F} {l : t2_L} {Q : Option fl_V → fl_M → Prop} {z : Int32} {A : Nat} (hA : z.toInt = (A : Int)) (hA1 : A < 16) (k : Q (some (.inl (f (18 + 4 * A) 3))) (f, l)) : fl_Tq (pw_P L xs) 48 20 [some (.inr (.inr (.inl (1, 1)))), some (.inl z)] [] (f, l) Q := by
  refine fl_Tq.stp (pc' := 21) (lv' := [some (.inr (.inr (.inl (1, 1)))), some (.inl z)]) (st' := [.inr (.inr (.inl (1, 1)))]) (m' := (f, l)) rfl rfl (fl_bo rfl) rfl ?_
  refine fl_Tq.stp (pc' := 24) (lv' := [some (.inr (.inr (.inl (1, 1)))), some (.inl z)]) (st' := [.inr (.inr (.inl (2, 2)))]) (m' := (f, l)) rfl rfl (fl_bo rfl) rfl ?_
  refine fl_Tq.stp (pc' := 25) (lv' := [some (.inr (.inr (.inl (1, 1)))), some (.inl z)]) (st' := [.inl z, .inr (.inr (.inl (2, 2)))]) (m' := (f, l)) rfl rfl (fl_bo rfl) rfl ?_
  refine fl_Tq.qld (p := 2) (τ := 2) (n := 16) (t := 18) (b := 16) (d := 3) (k := A) rfl (fl_bo rfl) rfl hA hA1 ?_
  show fl_Tq _ 48 26 [some (.inr (.inr (.inl (1, 1)))), some (.inl z)] [.inr (.inr (.inl (18, 18 + 4 * A)))] (f, l) _
  refine fl_Tq.gfV (k := 3) (v := f (18 + 4 * A) 3) rfl (fl_oks_ok ⟨(t2_kc0 hA1), True.intro⟩) rfl rfl ?_
  exact fl_Tq.ret rfl rfl rfl k
theorem y_mid_A {L : Nat} {xs : Nat → Int32} {f : t2_F} {l : t2_L} {Q : Option fl_V → fl_M → Prop}   (k : ((f 280 2).toInt = 0) → Q (some (.inl (-1 : Int32))) (f, l)) (k1 : (¬ ((f 280 2).toInt = 0)) → fl_Tq (pw_P L xs) 296 23 [some (.inr (.inr (.inl (76, 277))))] [.inl ((f 280 2) / (2 : Int32)), .inr (.inr (.inl (76, 277))), .inr (.inr (.inl (76, 277)))] (f, l) Q) : fl_Tq (pw_P L xs) 296 0 [some (.inr (.inr (.inl (76, 277))))] [] (f, l) Q := by
  refine fl_Tq.stp (pc' := 1) (lv' := [some (.inr (.inr (.inl (76, 277))))]) (st' := [.inr (.inr (.inl (76, 277)))]) (m' := (f, l)) rfl rfl (fl_bo rfl) rfl ?_
  refine fl_Tq.stp (pc' := 4) (lv' := [some (.inr (.inr (.inl (76, 277))))]) (st' := [.inr (.inr (.inl (79, 280)))]) (m' := (f, l)) rfl rfl (fl_bo rfl) rfl ?_
  refine fl_Tq.cI (c := (2 : Int32)) rfl (by decide +kernel) (fl_bo rfl) ?_
  refine fl_Tq.ldV (p := 280) (τ := 79) (n := 29780) (z := (0, 0, 0)) (k := 2) (v := f 280 2) rfl (fl_bo rfl) rfl (by decide +kernel) (by decide) rfl ?_
  by_cases h1 : (f 280 2).toInt = 0
  · refine fl_Tq.zf rfl (fl_bo rfl) (c1_ne_f h1) rfl ?_
    refine fl_Tq.cI (c := (-1 : Int32)) rfl (by decide +kernel) (fl_bo rfl) ?_
    refine fl_Tq.stp (pc' := 29) (lv' := [some (.inr (.inr (.inl (76, 277))))]) (st' := [.inl (-1 : Int32)]) (m' := (f, l)) rfl rfl (fl_bo rfl) rfl ?_
    exact fl_Tq.ret rfl rfl rfl (k h1)
  · refine fl_Tq.zt rfl (fl_bo rfl) (c1_ne_t h1) rfl ?_
    refine fl_Tq.stp (pc' := 14) (lv' := [some (.inr (.inr (.inl (76, 277))))]) (st' := [.inr (.inr (.inl (76, 277)))]) (m' := (f, l)) rfl rfl (fl_bo rfl) rfl ?_
    refine fl_Tq.stp (pc' := 15) (lv' := [some (.inr (.inr (.inl (76, 277))))]) (st' := [.inr (.inr (.inl (76, 277))), .inr (.inr (.inl (76, 277)))]) (m' := (f, l)) rfl rfl (fl_bo rfl) rfl ?_
    refine fl_Tq.stp (pc' := 16) (lv' := [some (.inr (.inr (.inl (76, 277))))]) (st' := [.inr (.inr (.inl (76, 277))), .inr (.inr (.inl (76, 277))), .inr (.inr (.inl (76, 277)))]) (m' := (f, l)) rfl rfl (fl_bo rfl) rfl ?_
    refine fl_Tq.stp (pc' := 19) (lv' := [some (.inr (.inr (.inl (76, 277))))]) (st' := [.inr (.inr (.inl (79, 280))), .inr (.inr (.inl (76, 277))), .inr (.inr (.inl (76, 277)))]) (m' := (f, l)) rfl rfl (fl_bo rfl) rfl ?_
    refine fl_Tq.cI (c := (2 : Int32)) rfl (by decide +kernel) (fl_bo rfl) ?_
    refine fl_Tq.ldV (p := 280) (τ := 79) (n := 29780) (z := (0, 0, 0)) (k := 2) (v := f 280 2) rfl (fl_bo rfl) rfl (by decide +kernel) (by decide) rfl ?_
    refine fl_Tq.cI (c := (2 : Int32)) rfl (by decide +kernel) (fl_bo rfl) ?_
    refine fl_Tq.dv rfl (fl_bo rfl) (by decide +kernel) ?_
    exact k1 h1
theorem y_mid_B {L : Nat} {xs : Nat → Int32} {f : t2_F} {l : t2_L} {Q : Option fl_V → fl_M → Prop} {z : Int32} {A : Nat} (hA : z.toInt = (A : Int)) (hA1 : A < 16) (hAn : (A : Int) < (f 280 2).toInt) (hk : ∀ C : Nat, (C : Int) < (f 280 2).toInt → t2_ck f C) (k : Q (some (.inl (r_partOf_v f z A))) (f, l)) : fl_Tq (pw_P L xs) 296 26 [some (.inr (.inr (.inl (76, 277))))] [.inl z, .inr (.inr (.inl (76, 277)))] (f, l) Q := by
  refine fl_Tq.cal rfl rfl (fl_bo rfl) rfl ?_
  refine r_partOf_q hA hA1 (hk A (by omega)) ?_
  show fl_Tq _ 296 29 [some (.inr (.inr (.inl (76, 277))))] [.inl (r_partOf_v f z A)] (f, l) _
  exact fl_Tq.ret rfl rfl rfl k
theorem x_scat_A {L : Nat} {xs : Nat → Int32} {f : t2_F} {l : t2_L} {Q : Option fl_V → fl_M → Prop}   (k : ((f 1 5).toInt = 0) → Q (some (.inl (-1 : Int32))) (f, l)) (k1 : (¬ ((f 1 5).toInt = 0)) → fl_Tq (pw_P L xs) 138 16 [some (.inr (.inr (.inl (0, 0)))), none, none, none] [.inr (.inr (.inl (1, 1)))] (f, l) Q) : fl_Tq (pw_P L xs) 138 0 [some (.inr (.inr (.inl (0, 0)))), none, none, none] [] (f, l) Q := by
  refine fl_Tq.stp (pc' := 1) (lv' := [some (.inr (.inr (.inl (0, 0)))), none, none, none]) (st' := [.inr (.inr (.inl (0, 0)))]) (m' := (f, l)) rfl rfl (fl_bo rfl) rfl ?_
  refine fl_Tq.stp (pc' := 4) (lv' := [some (.inr (.inr (.inl (0, 0)))), none, none, none]) (st' := [.inr (.inr (.inl (1, 1)))]) (m' := (f, l)) rfl rfl (fl_bo rfl) rfl ?_
  refine fl_Tq.gfV (k := 5) (v := f 1 5) rfl (fl_bo rfl) rfl rfl ?_
  by_cases h1 : (f 1 5).toInt = 0
  · refine fl_Tq.zf rfl (fl_bo rfl) (c1_ne_f h1) rfl ?_
    refine fl_Tq.cI (c := (-1 : Int32)) rfl (by decide +kernel) (fl_bo rfl) ?_
    exact fl_Tq.ret rfl rfl rfl (k h1)
  · refine fl_Tq.zt rfl (fl_bo rfl) (c1_ne_t h1) rfl ?_
    refine fl_Tq.stp (pc' := 13) (lv' := [some (.inr (.inr (.inl (0, 0)))), none, none, none]) (st' := [.inr (.inr (.inl (0, 0)))]) (m' := (f, l)) rfl rfl (fl_bo rfl) rfl ?_
    refine fl_Tq.stp (pc' := 16) (lv' := [some (.inr (.inr (.inl (0, 0)))), none, none, none]) (st' := [.inr (.inr (.inl (1, 1)))]) (m' := (f, l)) rfl rfl (fl_bo rfl) rfl ?_
    exact k1 h1
noncomputable def x_scat_B_a24 (f : t2_F) (z : Int32) : Nat → Int32
  | 0 => (0 : Int32)
  | k24 + 1 => (x_scat_B_a24 f z k24) + (t2_abs_v ((f (18 + 4 * k24) 3) - z))
theorem x_scat_B {L : Nat} {xs : Nat → Int32} {f : t2_F} {l : t2_L} {Q : Option fl_V → fl_M → Prop} {z : Int32} (hc : 0 ≤ (f 1 5).toInt ∧ (f 1 5).toInt ≤ 16) (k : Q (some (.inl (x_scat_B_a24 f z ((f 1 5).toInt.toNat)))) (f, l)) : fl_Tq (pw_P L xs) 138 19 [some (.inr (.inr (.inl (0, 0)))), none, none, none] [.inl z] (f, l) Q := by
  refine fl_Tq.stp (pc' := 20) (lv' := [some (.inr (.inr (.inl (0, 0)))), some (.inl z), none, none]) (st' := []) (m' := (f, l)) rfl rfl (fl_bo rfl) rfl ?_
  refine fl_Tq.cI (c := (0 : Int32)) rfl (by decide +kernel) (fl_bo rfl) ?_
  refine fl_Tq.stp (pc' := 22) (lv' := [some (.inr (.inr (.inl (0, 0)))), some (.inl z), some (.inl (0 : Int32)), none]) (st' := []) (m' := (f, l)) rfl rfl (fl_bo rfl) rfl ?_
  refine fl_Tq.cI (c := (0 : Int32)) rfl (by decide +kernel) (fl_bo rfl) ?_
  refine fl_Tq.stp (pc' := 24) (lv' := [some (.inr (.inr (.inl (0, 0)))), some (.inl z), some (.inl (0 : Int32)), some (.inl (0 : Int32))]) (st' := []) (m' := (f, l)) rfl rfl (fl_bo rfl) rfl ?_
  have hs24 : ∀ k24 : Nat, k24 < (f 1 5).toInt.toNat → fl_Tq (pw_P L xs) 138 24 [some (.inr (.inr (.inl (0, 0)))), some (.inl z), some (.inl (x_scat_B_a24 f z (k24 + 1))), some (.inl (Int32.ofNat (k24 + 1)))] [] (f, l) Q → fl_Tq (pw_P L xs) 138 24 [some (.inr (.inr (.inl (0, 0)))), some (.inl z), some (.inl (x_scat_B_a24 f z k24)), some (.inl (Int32.ofNat k24))] [] (f, l) Q := by
    intro k24 hk24 hS
    refine fl_Tq.stp (pc' := 25) (lv' := [some (.inr (.inr (.inl (0, 0)))), some (.inl z), some (.inl (x_scat_B_a24 f z k24)), some (.inl (Int32.ofNat k24))]) (st' := [.inl (Int32.ofNat k24)]) (m' := (f, l)) rfl rfl (fl_bo rfl) rfl ?_
    refine fl_Tq.stp (pc' := 26) (lv' := [some (.inr (.inr (.inl (0, 0)))), some (.inl z), some (.inl (x_scat_B_a24 f z k24)), some (.inl (Int32.ofNat k24))]) (st' := [.inr (.inr (.inl (0, 0))), .inl (Int32.ofNat k24)]) (m' := (f, l)) rfl rfl (fl_bo rfl) rfl ?_
    refine fl_Tq.stp (pc' := 29) (lv' := [some (.inr (.inr (.inl (0, 0)))), some (.inl z), some (.inl (x_scat_B_a24 f z k24)), some (.inl (Int32.ofNat k24))]) (st' := [.inr (.inr (.inl (1, 1))), .inl (Int32.ofNat k24)]) (m' := (f, l)) rfl rfl (fl_bo rfl) rfl ?_
    refine fl_Tq.gfV (k := 5) (v := f 1 5) rfl (fl_bo rfl) rfl rfl ?_
    refine fl_Tq.jf rfl (fl_bo rfl) (c2_ge_f (t2_lk hk24 (t2_nn hc.1))) rfl ?_
    refine fl_Tq.stp (pc' := 36) (lv' := [some (.inr (.inr (.inl (0, 0)))), some (.inl z), some (.inl (x_scat_B_a24 f z k24)), some (.inl (Int32.ofNat k24))]) (st' := [.inl (x_scat_B_a24 f z k24)]) (m' := (f, l)) rfl rfl (fl_bo rfl) rfl ?_
    refine fl_Tq.stp (pc' := 37) (lv' := [some (.inr (.inr (.inl (0, 0)))), some (.inl z), some (.inl (x_scat_B_a24 f z k24)), some (.inl (Int32.ofNat k24))]) (st' := [.inr (.inr (.inl (0, 0))), .inl (x_scat_B_a24 f z k24)]) (m' := (f, l)) rfl rfl (fl_bo rfl) rfl ?_
    refine fl_Tq.stp (pc' := 40) (lv' := [some (.inr (.inr (.inl (0, 0)))), some (.inl z), some (.inl (x_scat_B_a24 f z k24)), some (.inl (Int32.ofNat k24))]) (st' := [.inr (.inr (.inl (1, 1))), .inl (x_scat_B_a24 f z k24)]) (m' := (f, l)) rfl rfl (fl_bo rfl) rfl ?_
    refine fl_Tq.stp (pc' := 43) (lv' := [some (.inr (.inr (.inl (0, 0)))), some (.inl z), some (.inl (x_scat_B_a24 f z k24)), some (.inl (Int32.ofNat k24))]) (st' := [.inr (.inr (.inl (2, 2))), .inl (x_scat_B_a24 f z k24)]) (m' := (f, l)) rfl rfl (fl_bo rfl) rfl ?_
    refine fl_Tq.stp (pc' := 44) (lv' := [some (.inr (.inr (.inl (0, 0)))), some (.inl z), some (.inl (x_scat_B_a24 f z k24)), some (.inl (Int32.ofNat k24))]) (st' := [.inl (Int32.ofNat k24), .inr (.inr (.inl (2, 2))), .inl (x_scat_B_a24 f z k24)]) (m' := (f, l)) rfl rfl (fl_bo rfl) rfl ?_
    refine fl_Tq.qld (p := 2) (τ := 2) (n := 16) (t := 18) (b := 16) (d := 3) (k := k24) rfl (fl_bo rfl) rfl (at_ofN (by omega)) (by omega) ?_
    show fl_Tq _ 138 45 [some (.inr (.inr (.inl (0, 0)))), some (.inl z), some (.inl (x_scat_B_a24 f z k24)), some (.inl (Int32.ofNat k24))] [.inr (.inr (.inl (18, 18 + 4 * k24))), .inl (x_scat_B_a24 f z k24)] (f, l) _
    refine fl_Tq.gfV (k := 3) (v := f (18 + 4 * k24) 3) rfl (fl_oks_ok ⟨(t2_kc0 (by omega)), True.intro, True.intro⟩) rfl rfl ?_
    refine fl_Tq.stp (pc' := 49) (lv' := [some (.inr (.inr (.inl (0, 0)))), some (.inl z), some (.inl (x_scat_B_a24 f z k24)), some (.inl (Int32.ofNat k24))]) (st' := [.inl z, .inl (f (18 + 4 * k24) 3), .inl (x_scat_B_a24 f z k24)]) (m' := (f, l)) rfl rfl (fl_bo rfl) rfl ?_
    refine fl_Tq.stp (pc' := 50) (lv' := [some (.inr (.inr (.inl (0, 0)))), some (.inl z), some (.inl (x_scat_B_a24 f z k24)), some (.inl (Int32.ofNat k24))]) (st' := [.inl ((f (18 + 4 * k24) 3) - z), .inl (x_scat_B_a24 f z k24)]) (m' := (f, l)) rfl rfl (fl_bo rfl) rfl ?_
    refine fl_Tq.cal rfl rfl (fl_bo rfl) rfl ?_
    refine t2_abs_q  ?_
    show fl_Tq _ 138 53 [some (.inr (.inr (.inl (0, 0)))), some (.inl z), some (.inl (x_scat_B_a24 f z k24)), some (.inl (Int32.ofNat k24))] [.inl (t2_abs_v ((f (18 + 4 * k24) 3) - z)), .inl (x_scat_B_a24 f z k24)] (f, l) _
    refine fl_Tq.stp (pc' := 54) (lv' := [some (.inr (.inr (.inl (0, 0)))), some (.inl z), some (.inl (x_scat_B_a24 f z k24)), some (.inl (Int32.ofNat k24))]) (st' := [.inl ((x_scat_B_a24 f z k24) + (t2_abs_v ((f (18 + 4 * k24) 3) - z)))]) (m' := (f, l)) rfl rfl (fl_bo rfl) rfl ?_
    refine fl_Tq.stp (pc' := 55) (lv' := [some (.inr (.inr (.inl (0, 0)))), some (.inl z), some (.inl ((x_scat_B_a24 f z k24) + (t2_abs_v ((f (18 + 4 * k24) 3) - z)))), some (.inl (Int32.ofNat k24))]) (st' := []) (m' := (f, l)) rfl rfl (fl_bo rfl) rfl ?_
    refine fl_Tq.stp (pc' := 58) (lv' := [some (.inr (.inr (.inl (0, 0)))), some (.inl z), some (.inl ((x_scat_B_a24 f z k24) + (t2_abs_v ((f (18 + 4 * k24) 3) - z)))), some (.inl ((Int32.ofNat k24) + (1 : Int32)))]) (st' := []) (m' := (f, l)) rfl rfl (fl_bo rfl) rfl ?_
    refine fl_Tq.stp (pc' := 24) (lv' := [some (.inr (.inr (.inl (0, 0)))), some (.inl z), some (.inl ((x_scat_B_a24 f z k24) + (t2_abs_v ((f (18 + 4 * k24) 3) - z)))), some (.inl ((Int32.ofNat k24) + (1 : Int32)))]) (st' := []) (m' := (f, l)) rfl rfl (fl_bo rfl) rfl ?_
    have ea : x_scat_B_a24 f z (k24 + 1) = (x_scat_B_a24 f z k24) + (t2_abs_v ((f (18 + 4 * k24) 3) - z)) := by
      show ((x_scat_B_a24 f z k24) + (t2_abs_v ((f (18 + 4 * k24) 3) - z))) = _
      rfl
    rw [ea, ← t2_k1] at hS
    exact hS
  refine t2_for (S := fun k24 => fl_Tq (pw_P L xs) 138 24 [some (.inr (.inr (.inl (0, 0)))), some (.inl z), some (.inl (x_scat_B_a24 f z k24)), some (.inl (Int32.ofNat k24))] [] (f, l) Q) hs24 ?_
  show fl_Tq (pw_P L xs) 138 24 [some (.inr (.inr (.inl (0, 0)))), some (.inl z), some (.inl (x_scat_B_a24 f z ((f 1 5).toInt.toNat))), some (.inl (Int32.ofNat ((f 1 5).toInt.toNat)))] [] (f, l) _
  refine fl_Tq.stp (pc' := 25) (lv' := [some (.inr (.inr (.inl (0, 0)))), some (.inl z), some (.inl (x_scat_B_a24 f z ((f 1 5).toInt.toNat))), some (.inl (Int32.ofNat ((f 1 5).toInt.toNat)))]) (st' := [.inl (Int32.ofNat ((f 1 5).toInt.toNat))]) (m' := (f, l)) rfl rfl (fl_bo rfl) rfl ?_
  refine fl_Tq.stp (pc' := 26) (lv' := [some (.inr (.inr (.inl (0, 0)))), some (.inl z), some (.inl (x_scat_B_a24 f z ((f 1 5).toInt.toNat))), some (.inl (Int32.ofNat ((f 1 5).toInt.toNat)))]) (st' := [.inr (.inr (.inl (0, 0))), .inl (Int32.ofNat ((f 1 5).toInt.toNat))]) (m' := (f, l)) rfl rfl (fl_bo rfl) rfl ?_
  refine fl_Tq.stp (pc' := 29) (lv' := [some (.inr (.inr (.inl (0, 0)))), some (.inl z), some (.inl (x_scat_B_a24 f z ((f 1 5).toInt.toNat))), some (.inl (Int32.ofNat ((f 1 5).toInt.toNat)))]) (st' := [.inr (.inr (.inl (1, 1))), .inl (Int32.ofNat ((f 1 5).toInt.toNat))]) (m' := (f, l)) rfl rfl (fl_bo rfl) rfl ?_
  refine fl_Tq.gfV (k := 5) (v := f 1 5) rfl (fl_bo rfl) rfl rfl ?_
  refine fl_Tq.jt rfl (fl_bo rfl) (c2_ge_t (t2_ln (t2_nn hc.1))) rfl ?_
  refine fl_Tq.stp (pc' := 62) (lv' := [some (.inr (.inr (.inl (0, 0)))), some (.inl z), some (.inl (x_scat_B_a24 f z ((f 1 5).toInt.toNat))), some (.inl (Int32.ofNat ((f 1 5).toInt.toNat)))]) (st' := [.inl (x_scat_B_a24 f z ((f 1 5).toInt.toNat))]) (m' := (f, l)) rfl rfl (fl_bo rfl) rfl ?_
  exact fl_Tq.ret rfl rfl rfl k
theorem y_scat_A {L : Nat} {xs : Nat → Int32} {f : t2_F} {l : t2_L} {Q : Option fl_V → fl_M → Prop}   (k : ((f 280 2).toInt = 0) → Q (some (.inl (-1 : Int32))) (f, l)) (k1 : (¬ ((f 280 2).toInt = 0)) → fl_Tq (pw_P L xs) 297 12 [some (.inr (.inr (.inl (76, 277)))), none, none, none] [.inr (.inr (.inl (76, 277)))] (f, l) Q) : fl_Tq (pw_P L xs) 297 0 [some (.inr (.inr (.inl (76, 277)))), none, none, none] [] (f, l) Q := by
  refine fl_Tq.stp (pc' := 1) (lv' := [some (.inr (.inr (.inl (76, 277)))), none, none, none]) (st' := [.inr (.inr (.inl (76, 277)))]) (m' := (f, l)) rfl rfl (fl_bo rfl) rfl ?_
  refine fl_Tq.stp (pc' := 4) (lv' := [some (.inr (.inr (.inl (76, 277)))), none, none, none]) (st' := [.inr (.inr (.inl (79, 280)))]) (m' := (f, l)) rfl rfl (fl_bo rfl) rfl ?_
  refine fl_Tq.cI (c := (2 : Int32)) rfl (by decide +kernel) (fl_bo rfl) ?_
  refine fl_Tq.ldV (p := 280) (τ := 79) (n := 29780) (z := (0, 0, 0)) (k := 2) (v := f 280 2) rfl (fl_bo rfl) rfl (by decide +kernel) (by decide) rfl ?_
  by_cases h1 : (f 280 2).toInt = 0
  · refine fl_Tq.zf rfl (fl_bo rfl) (c1_ne_f h1) rfl ?_
    refine fl_Tq.cI (c := (-1 : Int32)) rfl (by decide +kernel) (fl_bo rfl) ?_
    exact fl_Tq.ret rfl rfl rfl (k h1)
  · refine fl_Tq.zt rfl (fl_bo rfl) (c1_ne_t h1) rfl ?_
    refine fl_Tq.stp (pc' := 12) (lv' := [some (.inr (.inr (.inl (76, 277)))), none, none, none]) (st' := [.inr (.inr (.inl (76, 277)))]) (m' := (f, l)) rfl rfl (fl_bo rfl) rfl ?_
    exact k1 h1
noncomputable def y_scat_B_a20 (f : t2_F) (z : Int32) : Nat → Int32
  | 0 => (0 : Int32)
  | k20 + 1 => (y_scat_B_a20 f z k20) + (r_size_v ((r_partOf_v f (Int32.ofNat k20) k20) - z))
theorem y_scat_B {L : Nat} {xs : Nat → Int32} {f : t2_F} {l : t2_L} {Q : Option fl_V → fl_M → Prop} {z : Int32} (hn : 0 ≤ (f 280 2).toInt ∧ (f 280 2).toInt ≤ 16) (hk : ∀ C : Nat, (C : Int) < (f 280 2).toInt → t2_ck f C) (k : Q (some (.inl (y_scat_B_a20 f z ((f 280 2).toInt.toNat)))) (f, l)) : fl_Tq (pw_P L xs) 297 15 [some (.inr (.inr (.inl (76, 277)))), none, none, none] [.inl z] (f, l) Q := by
  refine fl_Tq.stp (pc' := 16) (lv' := [some (.inr (.inr (.inl (76, 277)))), some (.inl z), none, none]) (st' := []) (m' := (f, l)) rfl rfl (fl_bo rfl) rfl ?_
  refine fl_Tq.cI (c := (0 : Int32)) rfl (by decide +kernel) (fl_bo rfl) ?_
  refine fl_Tq.stp (pc' := 18) (lv' := [some (.inr (.inr (.inl (76, 277)))), some (.inl z), some (.inl (0 : Int32)), none]) (st' := []) (m' := (f, l)) rfl rfl (fl_bo rfl) rfl ?_
  refine fl_Tq.cI (c := (0 : Int32)) rfl (by decide +kernel) (fl_bo rfl) ?_
  refine fl_Tq.stp (pc' := 20) (lv' := [some (.inr (.inr (.inl (76, 277)))), some (.inl z), some (.inl (0 : Int32)), some (.inl (0 : Int32))]) (st' := []) (m' := (f, l)) rfl rfl (fl_bo rfl) rfl ?_
  have hs20 : ∀ k20 : Nat, k20 < (f 280 2).toInt.toNat → fl_Tq (pw_P L xs) 297 20 [some (.inr (.inr (.inl (76, 277)))), some (.inl z), some (.inl (y_scat_B_a20 f z (k20 + 1))), some (.inl (Int32.ofNat (k20 + 1)))] [] (f, l) Q → fl_Tq (pw_P L xs) 297 20 [some (.inr (.inr (.inl (76, 277)))), some (.inl z), some (.inl (y_scat_B_a20 f z k20)), some (.inl (Int32.ofNat k20))] [] (f, l) Q := by
    intro k20 hk20 hS
    refine fl_Tq.stp (pc' := 21) (lv' := [some (.inr (.inr (.inl (76, 277)))), some (.inl z), some (.inl (y_scat_B_a20 f z k20)), some (.inl (Int32.ofNat k20))]) (st' := [.inl (Int32.ofNat k20)]) (m' := (f, l)) rfl rfl (fl_bo rfl) rfl ?_
    refine fl_Tq.stp (pc' := 22) (lv' := [some (.inr (.inr (.inl (76, 277)))), some (.inl z), some (.inl (y_scat_B_a20 f z k20)), some (.inl (Int32.ofNat k20))]) (st' := [.inr (.inr (.inl (76, 277))), .inl (Int32.ofNat k20)]) (m' := (f, l)) rfl rfl (fl_bo rfl) rfl ?_
    refine fl_Tq.stp (pc' := 25) (lv' := [some (.inr (.inr (.inl (76, 277)))), some (.inl z), some (.inl (y_scat_B_a20 f z k20)), some (.inl (Int32.ofNat k20))]) (st' := [.inr (.inr (.inl (79, 280))), .inl (Int32.ofNat k20)]) (m' := (f, l)) rfl rfl (fl_bo rfl) rfl ?_
    refine fl_Tq.cI (c := (2 : Int32)) rfl (by decide +kernel) (fl_bo rfl) ?_
    refine fl_Tq.ldV (p := 280) (τ := 79) (n := 29780) (z := (0, 0, 0)) (k := 2) (v := f 280 2) rfl (fl_bo rfl) rfl (by decide +kernel) (by decide) rfl ?_
    refine fl_Tq.jf rfl (fl_bo rfl) (c2_ge_f (t2_lk hk20 (t2_nn hn.1))) rfl ?_
    refine fl_Tq.stp (pc' := 31) (lv' := [some (.inr (.inr (.inl (76, 277)))), some (.inl z), some (.inl (y_scat_B_a20 f z k20)), some (.inl (Int32.ofNat k20))]) (st' := [.inl (y_scat_B_a20 f z k20)]) (m' := (f, l)) rfl rfl (fl_bo rfl) rfl ?_
    refine fl_Tq.stp (pc' := 32) (lv' := [some (.inr (.inr (.inl (76, 277)))), some (.inl z), some (.inl (y_scat_B_a20 f z k20)), some (.inl (Int32.ofNat k20))]) (st' := [.inr (.inr (.inl (76, 277))), .inl (y_scat_B_a20 f z k20)]) (m' := (f, l)) rfl rfl (fl_bo rfl) rfl ?_
    refine fl_Tq.stp (pc' := 33) (lv' := [some (.inr (.inr (.inl (76, 277)))), some (.inl z), some (.inl (y_scat_B_a20 f z k20)), some (.inl (Int32.ofNat k20))]) (st' := [.inl (Int32.ofNat k20), .inr (.inr (.inl (76, 277))), .inl (y_scat_B_a20 f z k20)]) (m' := (f, l)) rfl rfl (fl_bo rfl) rfl ?_
    refine fl_Tq.cal rfl rfl (fl_bo rfl) rfl ?_
    refine r_partOf_q (at_ofN (by omega)) (by omega) (hk k20 (by omega)) ?_
    show fl_Tq _ 297 36 [some (.inr (.inr (.inl (76, 277)))), some (.inl z), some (.inl (y_scat_B_a20 f z k20)), some (.inl (Int32.ofNat k20))] [.inl (r_partOf_v f (Int32.ofNat k20) k20), .inl (y_scat_B_a20 f z k20)] (f, l) _
    refine fl_Tq.stp (pc' := 37) (lv' := [some (.inr (.inr (.inl (76, 277)))), some (.inl z), some (.inl (y_scat_B_a20 f z k20)), some (.inl (Int32.ofNat k20))]) (st' := [.inl z, .inl (r_partOf_v f (Int32.ofNat k20) k20), .inl (y_scat_B_a20 f z k20)]) (m' := (f, l)) rfl rfl (fl_bo rfl) rfl ?_
    refine fl_Tq.stp (pc' := 38) (lv' := [some (.inr (.inr (.inl (76, 277)))), some (.inl z), some (.inl (y_scat_B_a20 f z k20)), some (.inl (Int32.ofNat k20))]) (st' := [.inl ((r_partOf_v f (Int32.ofNat k20) k20) - z), .inl (y_scat_B_a20 f z k20)]) (m' := (f, l)) rfl rfl (fl_bo rfl) rfl ?_
    refine fl_Tq.cal rfl rfl (fl_bo rfl) rfl ?_
    refine r_size_q  ?_
    show fl_Tq _ 297 41 [some (.inr (.inr (.inl (76, 277)))), some (.inl z), some (.inl (y_scat_B_a20 f z k20)), some (.inl (Int32.ofNat k20))] [.inl (r_size_v ((r_partOf_v f (Int32.ofNat k20) k20) - z)), .inl (y_scat_B_a20 f z k20)] (f, l) _
    refine fl_Tq.stp (pc' := 42) (lv' := [some (.inr (.inr (.inl (76, 277)))), some (.inl z), some (.inl (y_scat_B_a20 f z k20)), some (.inl (Int32.ofNat k20))]) (st' := [.inl ((y_scat_B_a20 f z k20) + (r_size_v ((r_partOf_v f (Int32.ofNat k20) k20) - z)))]) (m' := (f, l)) rfl rfl (fl_bo rfl) rfl ?_
    refine fl_Tq.stp (pc' := 43) (lv' := [some (.inr (.inr (.inl (76, 277)))), some (.inl z), some (.inl ((y_scat_B_a20 f z k20) + (r_size_v ((r_partOf_v f (Int32.ofNat k20) k20) - z)))), some (.inl (Int32.ofNat k20))]) (st' := []) (m' := (f, l)) rfl rfl (fl_bo rfl) rfl ?_
    refine fl_Tq.stp (pc' := 46) (lv' := [some (.inr (.inr (.inl (76, 277)))), some (.inl z), some (.inl ((y_scat_B_a20 f z k20) + (r_size_v ((r_partOf_v f (Int32.ofNat k20) k20) - z)))), some (.inl ((Int32.ofNat k20) + (1 : Int32)))]) (st' := []) (m' := (f, l)) rfl rfl (fl_bo rfl) rfl ?_
    refine fl_Tq.stp (pc' := 20) (lv' := [some (.inr (.inr (.inl (76, 277)))), some (.inl z), some (.inl ((y_scat_B_a20 f z k20) + (r_size_v ((r_partOf_v f (Int32.ofNat k20) k20) - z)))), some (.inl ((Int32.ofNat k20) + (1 : Int32)))]) (st' := []) (m' := (f, l)) rfl rfl (fl_bo rfl) rfl ?_
    have ea : y_scat_B_a20 f z (k20 + 1) = (y_scat_B_a20 f z k20) + (r_size_v ((r_partOf_v f (Int32.ofNat k20) k20) - z)) := by
      show ((y_scat_B_a20 f z k20) + (r_size_v ((r_partOf_v f (Int32.ofNat k20) k20) - z))) = _
      rfl
    rw [ea, ← t2_k1] at hS
    exact hS
  refine t2_for (S := fun k20 => fl_Tq (pw_P L xs) 297 20 [some (.inr (.inr (.inl (76, 277)))), some (.inl z), some (.inl (y_scat_B_a20 f z k20)), some (.inl (Int32.ofNat k20))] [] (f, l) Q) hs20 ?_
  show fl_Tq (pw_P L xs) 297 20 [some (.inr (.inr (.inl (76, 277)))), some (.inl z), some (.inl (y_scat_B_a20 f z ((f 280 2).toInt.toNat))), some (.inl (Int32.ofNat ((f 280 2).toInt.toNat)))] [] (f, l) _
  refine fl_Tq.stp (pc' := 21) (lv' := [some (.inr (.inr (.inl (76, 277)))), some (.inl z), some (.inl (y_scat_B_a20 f z ((f 280 2).toInt.toNat))), some (.inl (Int32.ofNat ((f 280 2).toInt.toNat)))]) (st' := [.inl (Int32.ofNat ((f 280 2).toInt.toNat))]) (m' := (f, l)) rfl rfl (fl_bo rfl) rfl ?_
  refine fl_Tq.stp (pc' := 22) (lv' := [some (.inr (.inr (.inl (76, 277)))), some (.inl z), some (.inl (y_scat_B_a20 f z ((f 280 2).toInt.toNat))), some (.inl (Int32.ofNat ((f 280 2).toInt.toNat)))]) (st' := [.inr (.inr (.inl (76, 277))), .inl (Int32.ofNat ((f 280 2).toInt.toNat))]) (m' := (f, l)) rfl rfl (fl_bo rfl) rfl ?_
  refine fl_Tq.stp (pc' := 25) (lv' := [some (.inr (.inr (.inl (76, 277)))), some (.inl z), some (.inl (y_scat_B_a20 f z ((f 280 2).toInt.toNat))), some (.inl (Int32.ofNat ((f 280 2).toInt.toNat)))]) (st' := [.inr (.inr (.inl (79, 280))), .inl (Int32.ofNat ((f 280 2).toInt.toNat))]) (m' := (f, l)) rfl rfl (fl_bo rfl) rfl ?_
  refine fl_Tq.cI (c := (2 : Int32)) rfl (by decide +kernel) (fl_bo rfl) ?_
  refine fl_Tq.ldV (p := 280) (τ := 79) (n := 29780) (z := (0, 0, 0)) (k := 2) (v := f 280 2) rfl (fl_bo rfl) rfl (by decide +kernel) (by decide) rfl ?_
  refine fl_Tq.jt rfl (fl_bo rfl) (c2_ge_t (t2_ln (t2_nn hn.1))) rfl ?_
  refine fl_Tq.stp (pc' := 50) (lv' := [some (.inr (.inr (.inl (76, 277)))), some (.inl z), some (.inl (y_scat_B_a20 f z ((f 280 2).toInt.toNat))), some (.inl (Int32.ofNat ((f 280 2).toInt.toNat)))]) (st' := [.inl (y_scat_B_a20 f z ((f 280 2).toInt.toNat))]) (m' := (f, l)) rfl rfl (fl_bo rfl) rfl ?_
  exact fl_Tq.ret rfl rfl rfl k
theorem t2_rk {x y : Int} {p : Prop} [Decidable p] : (if (if x = y then (if p then (1 : Int32) else (0 : Int32)) else (0 : Int32)).toInt = 0 then (if y < x then (1 : Int32) else (0 : Int32)) else (1 : Int32)) = (if y < x then (1 : Int32) else (if x = y then (if p then (1 : Int32) else (0 : Int32)) else (0 : Int32))) := by
  have z0 : (0 : Int32).toInt = 0 := rfl
  have z1 : ¬ ((1 : Int32).toInt = 0) := by decide +kernel
  by_cases h2 : x = y
  · have h1 : ¬ y < x := by omega
    by_cases h3 : p
    · simp only [if_pos h2, if_neg h1, if_pos h3, if_neg z1]
    · simp only [if_pos h2, if_neg h1, if_neg h3, if_pos z0]
  · simp only [if_neg h2, if_pos z0]
section T2RANK
variable {L : Nat} {xs : Nat → Int32} {f : t2_F} {l : t2_L} {Q : Option fl_V → fl_M → Prop} {a x : Int32} {C : Nat}
/-- how many stand ahead of a cell, both count alike -/
theorem c0_place_e (I : c0_I f f) (hC : C < (f 280 2).toInt.toNat) : c0_placeOf_v f (Int32.ofNat C) = y_rank_B_a17 f a C ((f 280 2).toInt.toNat) := by
  have n16 := I.rhu.1
  have eC : (Int32.ofNat C).toInt = (C : Int) := at_ofN (by omega)
  have a1 : ∀ k : Nat, k ≤ (f 280 2).toInt.toNat → c0_placeOf_a15 f (Int32.ofNat C) k = y_rank_B_a17 f a C k := by
    intro k
    induction k with
    | zero => intro _; rfl
    | succ k ih =>
      intro hk
      show c0_placeOf_a15 f (Int32.ofNat C) k + (if (if (f (18 + 4 * k) 3).toInt = (f (18 + 4 * (Int32.ofNat C).toInt.toNat) 3).toInt then (if (Int32.ofNat k).toInt < (Int32.ofNat C).toInt then (1 : Int32) else (0 : Int32)) else (0 : Int32)).toInt = 0 then (if (f (18 + 4 * (Int32.ofNat C).toInt.toNat) 3).toInt < (f (18 + 4 * k) 3).toInt then (1 : Int32) else (0 : Int32)) else (1 : Int32)) = y_rank_B_a17 f a C k + (if (r_partOf_v f (Int32.ofNat C) C).toInt < (r_partOf_v f (Int32.ofNat k) k).toInt then (1 : Int32) else (if (r_partOf_v f (Int32.ofNat k) k).toInt = (r_partOf_v f (Int32.ofNat C) C).toInt then (if (Int32.ofNat k).toInt < (Int32.ofNat C).toInt then (1 : Int32) else (0 : Int32)) else (0 : Int32)))
      rw [ih (by omega), t2_rk, show (Int32.ofNat C).toInt.toNat = C by omega, I.part (C := k) (by omega) (Int32.ofNat k), I.part hC (Int32.ofNat C)]
  unfold c0_placeOf_v
  rw [show (f 1 5) = f 280 2 from I.1.1.1]
  exact a1 _ (Nat.le_refl _)
theorem y_rank_ct (hC : C < 16) : ∀ k : Nat, k ≤ 16 → y_rank_B_a17 f a C k = Int32.ofNat (at_ct (at_bf (fun e => (r_partOf_v f 0 e).toInt) C) k) := by
  have eC : (Int32.ofNat C).toInt = (C : Int) := at_ofN (by omega)
  intro k
  induction k with
  | zero => intro _; rfl
  | succ k ih =>
    intro hk
    have ek : (Int32.ofNat k).toInt = (k : Int) := at_ofN (by omega)
    have hle := at_ct_le (at_bf (fun e => (r_partOf_v f 0 e).toInt) C) k
    have s : y_rank_B_a17 f a C (k + 1) = y_rank_B_a17 f a C k + (if (r_partOf_v f 0 C).toInt < (r_partOf_v f 0 k).toInt then (1 : Int32) else (if (r_partOf_v f 0 k).toInt = (r_partOf_v f 0 C).toInt then (if (Int32.ofNat k).toInt < (Int32.ofNat C).toInt then (1 : Int32) else (0 : Int32)) else (0 : Int32))) := rfl
    have e1 : Int32.ofNat (at_ct (at_bf (fun e => (r_partOf_v f 0 e).toInt) C) k) + (1 : Int32) = Int32.ofNat (at_ct (at_bf (fun e => (r_partOf_v f 0 e).toInt) C) k + 1) := t2_k1 _
    have e0 : Int32.ofNat (at_ct (at_bf (fun e => (r_partOf_v f 0 e).toInt) C) k) + (0 : Int32) = Int32.ofNat (at_ct (at_bf (fun e => (r_partOf_v f 0 e).toInt) C) k) := Int32.add_zero _
    rw [s, ih (by omega), ek, eC]
    show _ = Int32.ofNat (at_ct (at_bf (fun e => (r_partOf_v f 0 e).toInt) C) k + (if at_bf (fun e => (r_partOf_v f 0 e).toInt) C k then 1 else 0))
    by_cases h1 : (r_partOf_v f 0 C).toInt < (r_partOf_v f 0 k).toInt
    · have hb : at_bf (fun e => (r_partOf_v f 0 e).toInt) C k = true := by
        unfold at_bf
        rw [decide_eq_true h1]
        rfl
      rw [if_pos h1, hb, e1]
      rfl
    · by_cases h2 : (r_partOf_v f 0 k).toInt = (r_partOf_v f 0 C).toInt
      · by_cases h3 : k < C
        · have hb : at_bf (fun e => (r_partOf_v f 0 e).toInt) C k = true := by
            unfold at_bf
            rw [decide_eq_false h1, decide_eq_true h2, decide_eq_true h3]
            rfl
          rw [if_neg h1, if_pos h2, if_pos (by omega), hb, e1]
          rfl
        · have hb : at_bf (fun e => (r_partOf_v f 0 e).toInt) C k = false := by
            unfold at_bf
            rw [decide_eq_false h1, decide_eq_true h2, decide_eq_false h3]
            rfl
          rw [if_neg h1, if_pos h2, if_neg (by omega), hb, e0]
          rfl
      · have hb : at_bf (fun e => (r_partOf_v f 0 e).toInt) C k = false := by
          unfold at_bf
          rw [decide_eq_false h1, decide_eq_false h2]
          rfl
        rw [if_neg h1, if_neg h2, hb, e0]
        rfl
theorem c0_rank_e2 : ∀ k : Nat, (c0_rankedCell_e2 f x k = none → ∀ c : Nat, c < k → (c0_placeOf_v f (Int32.ofNat c)).toInt ≠ x.toInt) ∧ ∀ r : Int32, c0_rankedCell_e2 f x k = some r → ∃ c : Nat, c < k ∧ r = Int32.ofNat c := by
  intro k
  induction k with
  | zero => exact ⟨fun _ c hc => absurd hc (by omega), fun r h => by cases h⟩
  | succ k ih =>
    have s : c0_rankedCell_e2 f x (k + 1) = match c0_rankedCell_e2 f x k with
      | some r => some r
      | none => if (c0_placeOf_v f (Int32.ofNat k)).toInt = x.toInt then some (Int32.ofNat k) else none := rfl
    rw [s]
    cases he : c0_rankedCell_e2 f x k with
    | some r =>
      refine ⟨fun h => (by cases h), fun r' h => ?_⟩
      obtain ⟨c, hc, e⟩ := ih.2 r he
      cases h
      exact ⟨c, by omega, e⟩
    | none =>
      have i := ih.1 he
      by_cases hp : (c0_placeOf_v f (Int32.ofNat k)).toInt = x.toInt
      · refine ⟨fun h => ?_, fun r' h => ?_⟩
        · dsimp only at h
          rw [if_pos hp] at h
          cases h
        · dsimp only at h
          rw [if_pos hp] at h
          cases h
          exact ⟨k, by omega, rfl⟩
      · refine ⟨fun _ c hc => ?_, fun r' h => ?_⟩
        · rcases (by omega : c < k ∨ c = k) with h2 | rfl
          · exact i c h2
          · exact hp
        · dsimp only at h
          rw [if_neg hp] at h
          cases h
/-- each rank is some cell's -/
theorem c0_rank_ex (I : c0_I f f) {A : Nat} (hx : x.toInt = (A : Int)) (hA : A < (f 280 2).toInt.toNat) : ∃ c : Nat, c < (f 280 2).toInt.toNat ∧ c0_rankedCell_v f x = Int32.ofNat c := by
  have n16 := I.rhu.1
  unfold c0_rankedCell_v
  rw [show (f 1 5) = f 280 2 from I.1.1.1]
  obtain ⟨h1, h2⟩ := c0_rank_e2 (f := f) (x := x) ((f 280 2).toInt.toNat)
  cases he : c0_rankedCell_e2 f x ((f 280 2).toInt.toNat) with
  | some r => exact h2 r he
  | none =>
    obtain ⟨c, hc, e⟩ := at_rank_ex (fun e => (r_partOf_v f 0 e).toInt) ((f 280 2).toInt.toNat) A hA
    refine absurd ?_ (h1 he c hc)
    rw [c0_place_e (a := 0) I hc, y_rank_ct (by omega) _ (by omega), e, hx, at_ofN (by omega)]
/-- the reference's rank -/
theorem y_rank_q (I : c0_I f f) (k : Q (some (.inl (c0_rankedCell_v f a))) (f, l)) : fl_Tq (pw_P L xs) 295 0 (fl_args (am_mxl (pw_P L xs) 295) [at_this, .inl a]) [] (f, l) Q := by
  have n16 := I.rhu.1
  have hk := I.rhu.2
  have e5 : f 1 5 = f 280 2 := I.1.1.1
  have hm2 : ∀ (k : Nat) (r : Int32), c0_rankedCell_e2 f a k = some r → c0_rankedCell_e2 f a (k + 1) = some r := fun k r e => by
    unfold c0_rankedCell_e2
    rw [e]
  have hs : ∀ C : Nat, C < (f 1 5).toInt.toNat → c0_rankedCell_e2 f a C = none → (c0_rankedCell_e2 f a (C + 1) = none → fl_Tq (pw_P L xs) 295 2 [some (.inr (.inr (.inl (76, 277)))), some (.inl a), some (.inl (Int32.ofNat (C + 1))), none, none] [] (f, l) Q) → fl_Tq (pw_P L xs) 295 2 [some (.inr (.inr (.inl (76, 277)))), some (.inl a), some (.inl (Int32.ofNat C)), none, none] [] (f, l) Q := by
    intro C hC he hS
    rw [e5] at hC
    have eC : (Int32.ofNat C).toInt = (C : Int) := at_ofN (by omega)
    refine y_rank_B (by omega) (by omega) n16 hk (by omega) ?_
    rw [← c0_place_e I hC]
    refine y_rank_C (fun h1 => ?_) (fun h1 => ?_)
    · have ee : c0_rankedCell_e2 f a (C + 1) = some (Int32.ofNat C) := by
        unfold c0_rankedCell_e2
        rw [he]
        simp only [if_pos h1]
      have en : c0_rankedCell_e2 f a ((f 1 5).toInt.toNat) = some (Int32.ofNat C) := t2_Em hm2 ee (by rw [e5]; omega)
      unfold c0_rankedCell_v at k
      simp only [en] at k
      exact k
    · have ee : c0_rankedCell_e2 f a (C + 1) = none := by
        unfold c0_rankedCell_e2
        rw [he]
        simp only [if_neg h1]
      have hS := hS ee
      rw [← t2_k1] at hS
      exact fl_Tq.fg hS ⟨rfl, rfl, rfl, True.intro⟩
  refine y_rank_A ?_
  refine t2_forE (E := c0_rankedCell_e2 f a) (S := fun C => fl_Tq (pw_P L xs) 295 2 [some (.inr (.inr (.inl (76, 277)))), some (.inl a), some (.inl (Int32.ofNat C)), none, none] [] (f, l) Q) hs rfl (fun en2 => ?_)
  have eC : (Int32.ofNat (f 1 5).toInt.toNat).toInt = (((f 1 5).toInt.toNat : Nat) : Int) := at_ofN (by rw [e5]; omega)
  refine y_rank_D (by rw [eC, e5]; omega) ?_
  unfold c0_rankedCell_v at k
  simp only [en2] at k
  exact k
end T2RANK
/-- the middle part -/
theorem t2_midv {L : Nat} {xs : Nat → Int32} {f : t2_F} {l : t2_L} (I : c0_I f f) : ∃ v : Int32, (∀ Q : Option fl_V → fl_M → Prop, Q (some (.inl v)) (f, l) → fl_Tq (pw_P L xs) 48 0 (fl_args (am_mxl (pw_P L xs) 48) [.inr (.inr (.inl (1, 1)))]) [] (f, l) Q) ∧ ∀ Q : Option fl_V → fl_M → Prop, Q (some (.inl v)) (f, l) → fl_Tq (pw_P L xs) 296 0 (fl_args (am_mxl (pw_P L xs) 296) [at_this]) [] (f, l) Q := by
  have n16 := I.rhu.1
  have e5 : f 1 5 = f 280 2 := I.1.1.1
  have cm : (-1 : Int32).toInt = -1 := by decide +kernel
  have c2 : (2 : Int32).toInt = 2 := by decide +kernel
  by_cases h : (f 280 2).toInt = 0
  · refine ⟨(-1 : Int32), fun Q k => ?_, fun Q k => ?_⟩
    · refine x_mid_A I.hc (fun _ => k) (fun h1 => absurd ?_ h1)
      have e : c0_rankedCell_v f (f 1 5 / (2 : Int32)) = (-1 : Int32) := by
        unfold c0_rankedCell_v
        rw [show (f 1 5).toInt.toNat = 0 by rw [e5]; omega]
        rfl
      rw [e]
    · exact y_mid_A (fun _ => k) (fun h1 => absurd h h1)
  · have d : (f 280 2 / (2 : Int32)).toInt = (f 280 2).toInt / 2 := by rw [at_div32 n16.1 (by omega), c2]
    obtain ⟨A, hA⟩ : ∃ A : Nat, (f 280 2 / (2 : Int32)).toInt = (A : Int) := t2_nat (by omega)
    obtain ⟨c, hc, e⟩ := c0_rank_ex I hA (by omega)
    have ec : (Int32.ofNat c).toInt = (c : Int) := at_ofN (by omega)
    refine ⟨f (18 + 4 * c) 3, fun Q k => ?_, fun Q k => ?_⟩
    · refine x_mid_A I.hc (fun h1 => ?_) (fun _ => ?_)
      · rw [e5, e, ec, cm] at h1
        omega
      · rw [e5, e]
        exact x_mid_B ec (by omega) k
    · refine y_mid_A (fun h1 => absurd h1 h) (fun _ => ?_)
      refine fl_Tq.cal rfl rfl (fl_bo rfl) rfl ?_
      refine y_rank_q I ?_
      rw [e]
      refine y_mid_B ec (by omega) (by omega) I.rhu.2 ?_
      rw [← I.part hc (Int32.ofNat c)]
      exact k
theorem x_scat_e {f : t2_F} {z : Int32} (I : c0_I f f) : x_scat_B_a24 f z ((f 1 5).toInt.toNat) = y_scat_B_a20 f z ((f 280 2).toInt.toNat) := by
  have a1 : ∀ k : Nat, k ≤ (f 280 2).toInt.toNat → x_scat_B_a24 f z k = y_scat_B_a20 f z k := by
    intro k
    induction k with
    | zero => intro _; rfl
    | succ k ih =>
      intro hk
      show x_scat_B_a24 f z k + t2_abs_v ((f (18 + 4 * k) 3) - z) = y_scat_B_a20 f z k + r_size_v ((r_partOf_v f (Int32.ofNat k) k) - z)
      rw [ih (by omega), I.part (by omega) (Int32.ofNat k)]
      rfl
  rw [show (f 1 5) = f 280 2 from I.1.1.1]
  exact a1 _ (Nat.le_refl _)
/-! ===== scatter, on both sides ===== -/
theorem t2_cmp_37 {L : Nat} {xs : Nat → Int32} {f : t2_F} {l : t2_L} (_hall : ∀ c ∈ at_CM ++ at_CA, at_Valid at_XI (pw_P L xs) c) (hg : t2_Z (f, l)) : fl_Tq (pw_P L xs) 138 0 (fl_args (am_mxl (pw_P L xs) 138) [lx_x]) [] (f, l) (t2_End L xs 297 [at_this]) := by
  have I : c0_I f f := hg.2.1
  have e5 : f 1 5 = f 280 2 := I.1.1.1
  obtain ⟨v, h1, h2⟩ := t2_midv (L := L) (xs := xs) (l := l) hg.2.1
  by_cases h : (f 280 2).toInt = 0
  · exact t2_qq (y := (-1 : Int32)) hg (fun Q k => x_scat_A (fun _ => k) (fun h3 => absurd (by rw [e5]; exact h) h3)) (fun Q k => y_scat_A (fun _ => k) (fun h3 => absurd h h3))
  · refine t2_qq (y := y_scat_B_a20 f v ((f 280 2).toInt.toNat)) hg (fun Q k => x_scat_A (fun h3 => absurd (by rw [← e5]; exact h3) h) (fun _ => ?_)) (fun Q k => y_scat_A (fun h3 => absurd h3 h) (fun _ => ?_))
    · refine fl_Tq.cal rfl rfl (fl_bo rfl) rfl ?_
      refine h1 _ (x_scat_B I.hc ?_)
      rw [x_scat_e I]
      exact k
    · refine fl_Tq.cal rfl rfl (fl_bo rfl) rfl ?_
      exact h2 _ (y_scat_B I.rhu.1 I.rhu.2 k)

end

/-! 95.05.16p38.lean.txt -/
section
noncomputable def c0_goalPart_v_p38 (f : t2_F) : Int32 := if 0 < (lg_cmp (c0_allFull_v f) (0 : Int64)).toInt then (((c0_allCharge_v f) * (1000 : Int64)) / (c0_allFull_v f)).toInt32 else (-1 : Int32)
theorem c0_goalPart_q_p38 {L : Nat} {xs : Nat → Int32} {f : t2_F} {l : t2_L} {Q : Option fl_V → fl_M → Prop}  (hc : 0 ≤ (f 1 5).toInt ∧ (f 1 5).toInt ≤ 16) (k : Q (some (.inl (c0_goalPart_v_p38 f))) (f, l)) : fl_Tq (pw_P L xs) 44 0 (fl_args (am_mxl (pw_P L xs) 44) [.inr (.inr (.inl (1, 1)))]) [] (f, l) Q := by
  refine fl_Tq.stp (pc' := 1) (lv' := [some (.inr (.inr (.inl (1, 1)))), none, none]) (st' := [.inr (.inr (.inl (1, 1)))]) (m' := (f, l)) rfl rfl (fl_bo rfl) rfl ?_
  refine fl_Tq.cal rfl rfl (fl_bo rfl) rfl ?_
  refine c0_allFull_q hc ?_
  show fl_Tq _ 44 4 [some (.inr (.inr (.inl (1, 1)))), none, none] [.inr (.inl (c0_allFull_v f))] (f, l) _
  refine fl_Tq.stp (pc' := 5) (lv' := [some (.inr (.inr (.inl (1, 1)))), some (.inr (.inl (c0_allFull_v f))), none]) (st' := []) (m' := (f, l)) rfl rfl (fl_bo rfl) rfl ?_
  refine fl_Tq.stp (pc' := 6) (lv' := [some (.inr (.inr (.inl (1, 1)))), some (.inr (.inl (c0_allFull_v f))), none]) (st' := [.inr (.inl (c0_allFull_v f))]) (m' := (f, l)) rfl rfl (fl_bo rfl) rfl ?_
  refine fl_Tq.stp (pc' := 7) (lv' := [some (.inr (.inr (.inl (1, 1)))), some (.inr (.inl (c0_allFull_v f))), none]) (st' := [.inr (.inl (0 : Int64)), .inr (.inl (c0_allFull_v f))]) (m' := (f, l)) rfl rfl (fl_bo rfl) rfl ?_
  refine fl_Tq.stp (pc' := 8) (lv' := [some (.inr (.inr (.inl (1, 1)))), some (.inr (.inl (c0_allFull_v f))), none]) (st' := [.inl (lg_cmp (c0_allFull_v f) (0 : Int64))]) (m' := (f, l)) rfl rfl (fl_bo rfl) rfl ?_
  have hj190 : fl_Tq (pw_P L xs) 44 26 [some (.inr (.inr (.inl (1, 1)))), some (.inr (.inl (c0_allFull_v f))), none] [.inl (if 0 < (lg_cmp (c0_allFull_v f) (0 : Int64)).toInt then (((c0_allCharge_v f) * (1000 : Int64)) / (c0_allFull_v f)).toInt32 else (-1 : Int32))] (f, l) Q → fl_Tq (pw_P L xs) 44 8 [some (.inr (.inr (.inl (1, 1)))), some (.inr (.inl (c0_allFull_v f))), none] [.inl (lg_cmp (c0_allFull_v f) (0 : Int64))] (f, l) Q := by
    intro hJ
    by_cases h1 : 0 < (lg_cmp (c0_allFull_v f) (0 : Int64)).toInt
    · refine fl_Tq.zt rfl (fl_bo rfl) (c1_gt_t h1) rfl ?_
      refine fl_Tq.stp (pc' := 16) (lv' := [some (.inr (.inr (.inl (1, 1)))), some (.inr (.inl (c0_allFull_v f))), none]) (st' := [.inr (.inr (.inl (1, 1)))]) (m' := (f, l)) rfl rfl (fl_bo rfl) rfl ?_
      refine fl_Tq.cal rfl rfl (fl_bo rfl) rfl ?_
      refine c0_allCharge_q hc ?_
      show fl_Tq _ 44 19 [some (.inr (.inr (.inl (1, 1)))), some (.inr (.inl (c0_allFull_v f))), none] [.inr (.inl (c0_allCharge_v f))] (f, l) _
      refine fl_Tq.stp (pc' := 22) (lv' := [some (.inr (.inr (.inl (1, 1)))), some (.inr (.inl (c0_allFull_v f))), none]) (st' := [.inr (.inl (1000 : Int64)), .inr (.inl (c0_allCharge_v f))]) (m' := (f, l)) rfl rfl (fl_bo rfl) rfl ?_
      refine fl_Tq.stp (pc' := 23) (lv' := [some (.inr (.inr (.inl (1, 1)))), some (.inr (.inl (c0_allFull_v f))), none]) (st' := [.inr (.inl ((c0_allCharge_v f) * (1000 : Int64)))]) (m' := (f, l)) rfl rfl (fl_bo rfl) rfl ?_
      refine fl_Tq.stp (pc' := 24) (lv' := [some (.inr (.inr (.inl (1, 1)))), some (.inr (.inl (c0_allFull_v f))), none]) (st' := [.inr (.inl (c0_allFull_v f)), .inr (.inl ((c0_allCharge_v f) * (1000 : Int64)))]) (m' := (f, l)) rfl rfl (fl_bo rfl) rfl ?_
      refine fl_Tq.dvJ rfl (fl_bo rfl) (t2_nzl h1) ?_
      refine fl_Tq.stp (pc' := 26) (lv' := [some (.inr (.inr (.inl (1, 1)))), some (.inr (.inl (c0_allFull_v f))), none]) (st' := [.inl ((((c0_allCharge_v f) * (1000 : Int64)) / (c0_allFull_v f)).toInt32)]) (m' := (f, l)) rfl rfl (fl_bo rfl) rfl ?_
      have e0 : (if 0 < (lg_cmp (c0_allFull_v f) (0 : Int64)).toInt then (((c0_allCharge_v f) * (1000 : Int64)) / (c0_allFull_v f)).toInt32 else (-1 : Int32)) = (((c0_allCharge_v f) * (1000 : Int64)) / (c0_allFull_v f)).toInt32 := by simp only [if_pos h1]
      rw [e0] at hJ
      exact hJ
    · refine fl_Tq.zf rfl (fl_bo rfl) (c1_gt_f h1) rfl ?_
      refine fl_Tq.cI (c := (-1 : Int32)) rfl (by decide +kernel) (fl_bo rfl) ?_
      refine fl_Tq.stp (pc' := 26) (lv' := [some (.inr (.inr (.inl (1, 1)))), some (.inr (.inl (c0_allFull_v f))), none]) (st' := [.inl (-1 : Int32)]) (m' := (f, l)) rfl rfl (fl_bo rfl) rfl ?_
      have e0 : (if 0 < (lg_cmp (c0_allFull_v f) (0 : Int64)).toInt then (((c0_allCharge_v f) * (1000 : Int64)) / (c0_allFull_v f)).toInt32 else (-1 : Int32)) = (-1 : Int32) := by simp only [if_neg h1]
      rw [e0] at hJ
      exact hJ
  refine hj190 ?_
  show fl_Tq _ 44 26 [some (.inr (.inr (.inl (1, 1)))), some (.inr (.inl (c0_allFull_v f))), none] [.inl (if 0 < (lg_cmp (c0_allFull_v f) (0 : Int64)).toInt then (((c0_allCharge_v f) * (1000 : Int64)) / (c0_allFull_v f)).toInt32 else (-1 : Int32))] (f, l) _
  exact fl_Tq.ret rfl rfl rfl k
noncomputable def y_goalOf_a7_p38 (f : t2_F) : Nat → Int64 × Int64
  | 0 => ((0 : Int64), (0 : Int64))
  | k7 + 1 => (((y_goalOf_a7_p38 f k7).1) + ((f 280 (444 + 61 * k7 + 1)).toInt64), ((y_goalOf_a7_p38 f k7).2) + (((3600 : Int32) * (f 280 (444 + 61 * k7 + 0))).toInt64))
noncomputable def y_goalOf_v_p38 (f : t2_F) : Int32 := (((1000 : Int64) * ((y_goalOf_a7_p38 f ((f 280 2).toInt.toNat)).1)) / ((y_goalOf_a7_p38 f ((f 280 2).toInt.toNat)).2)).toInt32
theorem y_goalOf_q_p38 {L : Nat} {xs : Nat → Int32} {f : t2_F} {l : t2_L} {Q : Option fl_V → fl_M → Prop}  (hn : 0 ≤ (f 280 2).toInt ∧ (f 280 2).toInt ≤ 16) (hx : (y_goalOf_a7_p38 f ((f 280 2).toInt.toNat)).2 ≠ 0) (k : Q (some (.inl (y_goalOf_v_p38 f))) (f, l)) : fl_Tq (pw_P L xs) 299 0 (fl_args (am_mxl (pw_P L xs) 299) [.inr (.inr (.inl (76, 277)))]) [] (f, l) Q := by
  refine fl_Tq.stp (pc' := 1) (lv' := [some (.inr (.inr (.inl (76, 277)))), none, none, none, none, none]) (st' := [.inr (.inl (0 : Int64))]) (m' := (f, l)) rfl rfl (fl_bo rfl) rfl ?_
  refine fl_Tq.stp (pc' := 2) (lv' := [some (.inr (.inr (.inl (76, 277)))), some (.inr (.inl (0 : Int64))), none, none, none, none]) (st' := []) (m' := (f, l)) rfl rfl (fl_bo rfl) rfl ?_
  refine fl_Tq.stp (pc' := 3) (lv' := [some (.inr (.inr (.inl (76, 277)))), some (.inr (.inl (0 : Int64))), none, none, none, none]) (st' := [.inr (.inl (0 : Int64))]) (m' := (f, l)) rfl rfl (fl_bo rfl) rfl ?_
  refine fl_Tq.stp (pc' := 4) (lv' := [some (.inr (.inr (.inl (76, 277)))), some (.inr (.inl (0 : Int64))), none, some (.inr (.inl (0 : Int64))), none, none]) (st' := []) (m' := (f, l)) rfl rfl (fl_bo rfl) rfl ?_
  refine fl_Tq.cI (c := (0 : Int32)) rfl (by decide +kernel) (fl_bo rfl) ?_
  refine fl_Tq.stp (pc' := 7) (lv' := [some (.inr (.inr (.inl (76, 277)))), some (.inr (.inl (0 : Int64))), none, some (.inr (.inl (0 : Int64))), none, some (.inl (0 : Int32))]) (st' := []) (m' := (f, l)) rfl rfl (fl_bo rfl) rfl ?_
  have hs7 : ∀ k7 : Nat, k7 < (f 280 2).toInt.toNat → fl_Tq (pw_P L xs) 299 7 [some (.inr (.inr (.inl (76, 277)))), some (.inr (.inl ((y_goalOf_a7_p38 f (k7 + 1)).1))), none, some (.inr (.inl ((y_goalOf_a7_p38 f (k7 + 1)).2))), none, some (.inl (Int32.ofNat (k7 + 1)))] [] (f, l) Q → fl_Tq (pw_P L xs) 299 7 [some (.inr (.inr (.inl (76, 277)))), some (.inr (.inl ((y_goalOf_a7_p38 f k7).1))), none, some (.inr (.inl ((y_goalOf_a7_p38 f k7).2))), none, some (.inl (Int32.ofNat k7))] [] (f, l) Q := by
    intro k7 hk7 hS
    refine fl_Tq.stp (pc' := 9) (lv' := [some (.inr (.inr (.inl (76, 277)))), some (.inr (.inl ((y_goalOf_a7_p38 f k7).1))), none, some (.inr (.inl ((y_goalOf_a7_p38 f k7).2))), none, some (.inl (Int32.ofNat k7))]) (st' := [.inl (Int32.ofNat k7)]) (m' := (f, l)) rfl rfl (fl_bo rfl) rfl ?_
    refine fl_Tq.stp (pc' := 10) (lv' := [some (.inr (.inr (.inl (76, 277)))), some (.inr (.inl ((y_goalOf_a7_p38 f k7).1))), none, some (.inr (.inl ((y_goalOf_a7_p38 f k7).2))), none, some (.inl (Int32.ofNat k7))]) (st' := [.inr (.inr (.inl (76, 277))), .inl (Int32.ofNat k7)]) (m' := (f, l)) rfl rfl (fl_bo rfl) rfl ?_
    refine fl_Tq.stp (pc' := 13) (lv' := [some (.inr (.inr (.inl (76, 277)))), some (.inr (.inl ((y_goalOf_a7_p38 f k7).1))), none, some (.inr (.inl ((y_goalOf_a7_p38 f k7).2))), none, some (.inl (Int32.ofNat k7))]) (st' := [.inr (.inr (.inl (79, 280))), .inl (Int32.ofNat k7)]) (m' := (f, l)) rfl rfl (fl_bo rfl) rfl ?_
    refine fl_Tq.cI (c := (2 : Int32)) rfl (by decide +kernel) (fl_bo rfl) ?_
    refine fl_Tq.ldV (p := 280) (τ := 79) (n := 29780) (z := (0, 0, 0)) (k := 2) (v := f 280 2) rfl (fl_bo rfl) rfl (by decide +kernel) (by decide) rfl ?_
    refine fl_Tq.jf rfl (fl_bo rfl) (c2_ge_f (t2_lk hk7 (t2_nn hn.1))) rfl ?_
    refine fl_Tq.stp (pc' := 19) (lv' := [some (.inr (.inr (.inl (76, 277)))), some (.inr (.inl ((y_goalOf_a7_p38 f k7).1))), none, some (.inr (.inl ((y_goalOf_a7_p38 f k7).2))), none, some (.inl (Int32.ofNat k7))]) (st' := [.inr (.inl ((y_goalOf_a7_p38 f k7).1))]) (m' := (f, l)) rfl rfl (fl_bo rfl) rfl ?_
    refine fl_Tq.stp (pc' := 20) (lv' := [some (.inr (.inr (.inl (76, 277)))), some (.inr (.inl ((y_goalOf_a7_p38 f k7).1))), none, some (.inr (.inl ((y_goalOf_a7_p38 f k7).2))), none, some (.inl (Int32.ofNat k7))]) (st' := [.inr (.inr (.inl (76, 277))), .inr (.inl ((y_goalOf_a7_p38 f k7).1))]) (m' := (f, l)) rfl rfl (fl_bo rfl) rfl ?_
    refine fl_Tq.stp (pc' := 22) (lv' := [some (.inr (.inr (.inl (76, 277)))), some (.inr (.inl ((y_goalOf_a7_p38 f k7).1))), none, some (.inr (.inl ((y_goalOf_a7_p38 f k7).2))), none, some (.inl (Int32.ofNat k7))]) (st' := [.inl (Int32.ofNat k7), .inr (.inr (.inl (76, 277))), .inr (.inl ((y_goalOf_a7_p38 f k7).1))]) (m' := (f, l)) rfl rfl (fl_bo rfl) rfl ?_
    refine fl_Tq.cI (c := (1 : Int32)) rfl (by decide +kernel) (fl_bo rfl) ?_
    refine fl_Tq.cal rfl rfl (fl_bo rfl) rfl ?_
    refine t2_get (C := k7) (W := 1) (v := f 280 (444 + 61 * k7 + 1)) (at_ofN (by omega)) (by decide +kernel) (by omega) (by decide) rfl ?_
    show fl_Tq _ 299 26 [some (.inr (.inr (.inl (76, 277)))), some (.inr (.inl ((y_goalOf_a7_p38 f k7).1))), none, some (.inr (.inl ((y_goalOf_a7_p38 f k7).2))), none, some (.inl (Int32.ofNat k7))] [.inl (f 280 (444 + 61 * k7 + 1)), .inr (.inl ((y_goalOf_a7_p38 f k7).1))] (f, l) _
    refine fl_Tq.stp (pc' := 27) (lv' := [some (.inr (.inr (.inl (76, 277)))), some (.inr (.inl ((y_goalOf_a7_p38 f k7).1))), none, some (.inr (.inl ((y_goalOf_a7_p38 f k7).2))), none, some (.inl (Int32.ofNat k7))]) (st' := [.inr (.inl ((f 280 (444 + 61 * k7 + 1)).toInt64)), .inr (.inl ((y_goalOf_a7_p38 f k7).1))]) (m' := (f, l)) rfl rfl (fl_bo rfl) rfl ?_
    refine fl_Tq.stp (pc' := 28) (lv' := [some (.inr (.inr (.inl (76, 277)))), some (.inr (.inl ((y_goalOf_a7_p38 f k7).1))), none, some (.inr (.inl ((y_goalOf_a7_p38 f k7).2))), none, some (.inl (Int32.ofNat k7))]) (st' := [.inr (.inl (((y_goalOf_a7_p38 f k7).1) + ((f 280 (444 + 61 * k7 + 1)).toInt64)))]) (m' := (f, l)) rfl rfl (fl_bo rfl) rfl ?_
    refine fl_Tq.stp (pc' := 29) (lv' := [some (.inr (.inr (.inl (76, 277)))), some (.inr (.inl (((y_goalOf_a7_p38 f k7).1) + ((f 280 (444 + 61 * k7 + 1)).toInt64)))), none, some (.inr (.inl ((y_goalOf_a7_p38 f k7).2))), none, some (.inl (Int32.ofNat k7))]) (st' := []) (m' := (f, l)) rfl rfl (fl_bo rfl) rfl ?_
    refine fl_Tq.stp (pc' := 30) (lv' := [some (.inr (.inr (.inl (76, 277)))), some (.inr (.inl (((y_goalOf_a7_p38 f k7).1) + ((f 280 (444 + 61 * k7 + 1)).toInt64)))), none, some (.inr (.inl ((y_goalOf_a7_p38 f k7).2))), none, some (.inl (Int32.ofNat k7))]) (st' := [.inr (.inl ((y_goalOf_a7_p38 f k7).2))]) (m' := (f, l)) rfl rfl (fl_bo rfl) rfl ?_
    refine fl_Tq.stp (pc' := 31) (lv' := [some (.inr (.inr (.inl (76, 277)))), some (.inr (.inl (((y_goalOf_a7_p38 f k7).1) + ((f 280 (444 + 61 * k7 + 1)).toInt64)))), none, some (.inr (.inl ((y_goalOf_a7_p38 f k7).2))), none, some (.inl (Int32.ofNat k7))]) (st' := [.inr (.inr (.inl (76, 277))), .inr (.inl ((y_goalOf_a7_p38 f k7).2))]) (m' := (f, l)) rfl rfl (fl_bo rfl) rfl ?_
    refine fl_Tq.stp (pc' := 33) (lv' := [some (.inr (.inr (.inl (76, 277)))), some (.inr (.inl (((y_goalOf_a7_p38 f k7).1) + ((f 280 (444 + 61 * k7 + 1)).toInt64)))), none, some (.inr (.inl ((y_goalOf_a7_p38 f k7).2))), none, some (.inl (Int32.ofNat k7))]) (st' := [.inl (Int32.ofNat k7), .inr (.inr (.inl (76, 277))), .inr (.inl ((y_goalOf_a7_p38 f k7).2))]) (m' := (f, l)) rfl rfl (fl_bo rfl) rfl ?_
    refine fl_Tq.cal rfl rfl (fl_bo rfl) rfl ?_
    refine fl_Tq.cS (c := (3600 : Int32)) rfl (by decide +kernel) (fl_bo rfl) ?_
    refine fl_Tq.stp (pc' := 4) (lv' := [some (.inr (.inr (.inl (76, 277)))), some (.inl (Int32.ofNat k7))]) (st' := [.inr (.inr (.inl (76, 277))), .inl (3600 : Int32)]) (m' := (f, l)) rfl rfl (fl_bo rfl) rfl ?_
    refine fl_Tq.stp (pc' := 5) (lv' := [some (.inr (.inr (.inl (76, 277)))), some (.inl (Int32.ofNat k7))]) (st' := [.inl (Int32.ofNat k7), .inr (.inr (.inl (76, 277))), .inl (3600 : Int32)]) (m' := (f, l)) rfl rfl (fl_bo rfl) rfl ?_
    refine fl_Tq.cI (c := (0 : Int32)) rfl (by decide +kernel) (fl_bo rfl) ?_
    refine fl_Tq.cal rfl rfl (fl_bo rfl) rfl ?_
    refine t2_get (C := k7) (W := 0) (v := f 280 (444 + 61 * k7 + 0)) (at_ofN (by omega)) (by decide +kernel) (by omega) (by decide) rfl ?_
    show fl_Tq _ 195 9 [some (.inr (.inr (.inl (76, 277)))), some (.inl (Int32.ofNat k7))] [.inl (f 280 (444 + 61 * k7 + 0)), .inl (3600 : Int32)] (f, l) _
    refine fl_Tq.stp (pc' := 10) (lv' := [some (.inr (.inr (.inl (76, 277)))), some (.inl (Int32.ofNat k7))]) (st' := [.inl ((3600 : Int32) * (f 280 (444 + 61 * k7 + 0)))]) (m' := (f, l)) rfl rfl (fl_bo rfl) rfl ?_
    refine fl_Tq.ret rfl rfl rfl ?_
    show fl_Tq _ 299 36 [some (.inr (.inr (.inl (76, 277)))), some (.inr (.inl (((y_goalOf_a7_p38 f k7).1) + ((f 280 (444 + 61 * k7 + 1)).toInt64)))), none, some (.inr (.inl ((y_goalOf_a7_p38 f k7).2))), none, some (.inl (Int32.ofNat k7))] [.inl ((3600 : Int32) * (f 280 (444 + 61 * k7 + 0))), .inr (.inl ((y_goalOf_a7_p38 f k7).2))] (f, l) _
    refine fl_Tq.stp (pc' := 37) (lv' := [some (.inr (.inr (.inl (76, 277)))), some (.inr (.inl (((y_goalOf_a7_p38 f k7).1) + ((f 280 (444 + 61 * k7 + 1)).toInt64)))), none, some (.inr (.inl ((y_goalOf_a7_p38 f k7).2))), none, some (.inl (Int32.ofNat k7))]) (st' := [.inr (.inl (((3600 : Int32) * (f 280 (444 + 61 * k7 + 0))).toInt64)), .inr (.inl ((y_goalOf_a7_p38 f k7).2))]) (m' := (f, l)) rfl rfl (fl_bo rfl) rfl ?_
    refine fl_Tq.stp (pc' := 38) (lv' := [some (.inr (.inr (.inl (76, 277)))), some (.inr (.inl (((y_goalOf_a7_p38 f k7).1) + ((f 280 (444 + 61 * k7 + 1)).toInt64)))), none, some (.inr (.inl ((y_goalOf_a7_p38 f k7).2))), none, some (.inl (Int32.ofNat k7))]) (st' := [.inr (.inl (((y_goalOf_a7_p38 f k7).2) + (((3600 : Int32) * (f 280 (444 + 61 * k7 + 0))).toInt64)))]) (m' := (f, l)) rfl rfl (fl_bo rfl) rfl ?_
    refine fl_Tq.stp (pc' := 39) (lv' := [some (.inr (.inr (.inl (76, 277)))), some (.inr (.inl (((y_goalOf_a7_p38 f k7).1) + ((f 280 (444 + 61 * k7 + 1)).toInt64)))), none, some (.inr (.inl (((y_goalOf_a7_p38 f k7).2) + (((3600 : Int32) * (f 280 (444 + 61 * k7 + 0))).toInt64)))), none, some (.inl (Int32.ofNat k7))]) (st' := []) (m' := (f, l)) rfl rfl (fl_bo rfl) rfl ?_
    refine fl_Tq.stp (pc' := 42) (lv' := [some (.inr (.inr (.inl (76, 277)))), some (.inr (.inl (((y_goalOf_a7_p38 f k7).1) + ((f 280 (444 + 61 * k7 + 1)).toInt64)))), none, some (.inr (.inl (((y_goalOf_a7_p38 f k7).2) + (((3600 : Int32) * (f 280 (444 + 61 * k7 + 0))).toInt64)))), none, some (.inl ((Int32.ofNat k7) + (1 : Int32)))]) (st' := []) (m' := (f, l)) rfl rfl (fl_bo rfl) rfl ?_
    refine fl_Tq.stp (pc' := 7) (lv' := [some (.inr (.inr (.inl (76, 277)))), some (.inr (.inl (((y_goalOf_a7_p38 f k7).1) + ((f 280 (444 + 61 * k7 + 1)).toInt64)))), none, some (.inr (.inl (((y_goalOf_a7_p38 f k7).2) + (((3600 : Int32) * (f 280 (444 + 61 * k7 + 0))).toInt64)))), none, some (.inl ((Int32.ofNat k7) + (1 : Int32)))]) (st' := []) (m' := (f, l)) rfl rfl (fl_bo rfl) rfl ?_
    have ea : y_goalOf_a7_p38 f (k7 + 1) = (((y_goalOf_a7_p38 f k7).1) + ((f 280 (444 + 61 * k7 + 1)).toInt64), ((y_goalOf_a7_p38 f k7).2) + (((3600 : Int32) * (f 280 (444 + 61 * k7 + 0))).toInt64)) := by
      show ((((y_goalOf_a7_p38 f k7).1) + ((f 280 (444 + 61 * k7 + 1)).toInt64), ((y_goalOf_a7_p38 f k7).2) + (((3600 : Int32) * (f 280 (444 + 61 * k7 + 0))).toInt64))) = _
      rfl
    rw [ea, ← t2_k1] at hS
    exact hS
  refine t2_for (S := fun k7 => fl_Tq (pw_P L xs) 299 7 [some (.inr (.inr (.inl (76, 277)))), some (.inr (.inl ((y_goalOf_a7_p38 f k7).1))), none, some (.inr (.inl ((y_goalOf_a7_p38 f k7).2))), none, some (.inl (Int32.ofNat k7))] [] (f, l) Q) hs7 ?_
  show fl_Tq (pw_P L xs) 299 7 [some (.inr (.inr (.inl (76, 277)))), some (.inr (.inl ((y_goalOf_a7_p38 f ((f 280 2).toInt.toNat)).1))), none, some (.inr (.inl ((y_goalOf_a7_p38 f ((f 280 2).toInt.toNat)).2))), none, some (.inl (Int32.ofNat ((f 280 2).toInt.toNat)))] [] (f, l) _
  refine fl_Tq.stp (pc' := 9) (lv' := [some (.inr (.inr (.inl (76, 277)))), some (.inr (.inl ((y_goalOf_a7_p38 f ((f 280 2).toInt.toNat)).1))), none, some (.inr (.inl ((y_goalOf_a7_p38 f ((f 280 2).toInt.toNat)).2))), none, some (.inl (Int32.ofNat ((f 280 2).toInt.toNat)))]) (st' := [.inl (Int32.ofNat ((f 280 2).toInt.toNat))]) (m' := (f, l)) rfl rfl (fl_bo rfl) rfl ?_
  refine fl_Tq.stp (pc' := 10) (lv' := [some (.inr (.inr (.inl (76, 277)))), some (.inr (.inl ((y_goalOf_a7_p38 f ((f 280 2).toInt.toNat)).1))), none, some (.inr (.inl ((y_goalOf_a7_p38 f ((f 280 2).toInt.toNat)).2))), none, some (.inl (Int32.ofNat ((f 280 2).toInt.toNat)))]) (st' := [.inr (.inr (.inl (76, 277))), .inl (Int32.ofNat ((f 280 2).toInt.toNat))]) (m' := (f, l)) rfl rfl (fl_bo rfl) rfl ?_
  refine fl_Tq.stp (pc' := 13) (lv' := [some (.inr (.inr (.inl (76, 277)))), some (.inr (.inl ((y_goalOf_a7_p38 f ((f 280 2).toInt.toNat)).1))), none, some (.inr (.inl ((y_goalOf_a7_p38 f ((f 280 2).toInt.toNat)).2))), none, some (.inl (Int32.ofNat ((f 280 2).toInt.toNat)))]) (st' := [.inr (.inr (.inl (79, 280))), .inl (Int32.ofNat ((f 280 2).toInt.toNat))]) (m' := (f, l)) rfl rfl (fl_bo rfl) rfl ?_
  refine fl_Tq.cI (c := (2 : Int32)) rfl (by decide +kernel) (fl_bo rfl) ?_
  refine fl_Tq.ldV (p := 280) (τ := 79) (n := 29780) (z := (0, 0, 0)) (k := 2) (v := f 280 2) rfl (fl_bo rfl) rfl (by decide +kernel) (by decide) rfl ?_
  refine fl_Tq.jt rfl (fl_bo rfl) (c2_ge_t (t2_ln (t2_nn hn.1))) rfl ?_
  refine fl_Tq.stp (pc' := 48) (lv' := [some (.inr (.inr (.inl (76, 277)))), some (.inr (.inl ((y_goalOf_a7_p38 f ((f 280 2).toInt.toNat)).1))), none, some (.inr (.inl ((y_goalOf_a7_p38 f ((f 280 2).toInt.toNat)).2))), none, some (.inl (Int32.ofNat ((f 280 2).toInt.toNat)))]) (st' := [.inr (.inl (1000 : Int64))]) (m' := (f, l)) rfl rfl (fl_bo rfl) rfl ?_
  refine fl_Tq.stp (pc' := 49) (lv' := [some (.inr (.inr (.inl (76, 277)))), some (.inr (.inl ((y_goalOf_a7_p38 f ((f 280 2).toInt.toNat)).1))), none, some (.inr (.inl ((y_goalOf_a7_p38 f ((f 280 2).toInt.toNat)).2))), none, some (.inl (Int32.ofNat ((f 280 2).toInt.toNat)))]) (st' := [.inr (.inl ((y_goalOf_a7_p38 f ((f 280 2).toInt.toNat)).1)), .inr (.inl (1000 : Int64))]) (m' := (f, l)) rfl rfl (fl_bo rfl) rfl ?_
  refine fl_Tq.stp (pc' := 50) (lv' := [some (.inr (.inr (.inl (76, 277)))), some (.inr (.inl ((y_goalOf_a7_p38 f ((f 280 2).toInt.toNat)).1))), none, some (.inr (.inl ((y_goalOf_a7_p38 f ((f 280 2).toInt.toNat)).2))), none, some (.inl (Int32.ofNat ((f 280 2).toInt.toNat)))]) (st' := [.inr (.inl ((1000 : Int64) * ((y_goalOf_a7_p38 f ((f 280 2).toInt.toNat)).1)))]) (m' := (f, l)) rfl rfl (fl_bo rfl) rfl ?_
  refine fl_Tq.stp (pc' := 51) (lv' := [some (.inr (.inr (.inl (76, 277)))), some (.inr (.inl ((y_goalOf_a7_p38 f ((f 280 2).toInt.toNat)).1))), none, some (.inr (.inl ((y_goalOf_a7_p38 f ((f 280 2).toInt.toNat)).2))), none, some (.inl (Int32.ofNat ((f 280 2).toInt.toNat)))]) (st' := [.inr (.inl ((y_goalOf_a7_p38 f ((f 280 2).toInt.toNat)).2)), .inr (.inl ((1000 : Int64) * ((y_goalOf_a7_p38 f ((f 280 2).toInt.toNat)).1)))]) (m' := (f, l)) rfl rfl (fl_bo rfl) rfl ?_
  refine fl_Tq.dvJ rfl (fl_bo rfl) hx ?_
  refine fl_Tq.stp (pc' := 53) (lv' := [some (.inr (.inr (.inl (76, 277)))), some (.inr (.inl ((y_goalOf_a7_p38 f ((f 280 2).toInt.toNat)).1))), none, some (.inr (.inl ((y_goalOf_a7_p38 f ((f 280 2).toInt.toNat)).2))), none, some (.inl (Int32.ofNat ((f 280 2).toInt.toNat)))]) (st' := [.inl ((((1000 : Int64) * ((y_goalOf_a7_p38 f ((f 280 2).toInt.toNat)).1)) / ((y_goalOf_a7_p38 f ((f 280 2).toInt.toNat)).2)).toInt32)]) (m' := (f, l)) rfl rfl (fl_bo rfl) rfl ?_
  exact fl_Tq.ret rfl rfl rfl k
noncomputable def x_goal_v (f : t2_F) : Int32 := c0_goalPart_v_p38 f
theorem x_goal_q {L : Nat} {xs : Nat → Int32} {f : t2_F} {l : t2_L} {Q : Option fl_V → fl_M → Prop}  (hc : 0 ≤ (f 1 5).toInt ∧ (f 1 5).toInt ≤ 16) (k : Q (some (.inl (x_goal_v f))) (f, l)) : fl_Tq (pw_P L xs) 139 0 (fl_args (am_mxl (pw_P L xs) 139) [.inr (.inr (.inl (0, 0)))]) [] (f, l) Q := by
  refine fl_Tq.stp (pc' := 1) (lv' := [some (.inr (.inr (.inl (0, 0))))]) (st' := [.inr (.inr (.inl (0, 0)))]) (m' := (f, l)) rfl rfl (fl_bo rfl) rfl ?_
  refine fl_Tq.stp (pc' := 4) (lv' := [some (.inr (.inr (.inl (0, 0))))]) (st' := [.inr (.inr (.inl (1, 1)))]) (m' := (f, l)) rfl rfl (fl_bo rfl) rfl ?_
  refine fl_Tq.cal rfl rfl (fl_bo rfl) rfl ?_
  refine c0_goalPart_q_p38 hc ?_
  show fl_Tq _ 139 7 [some (.inr (.inr (.inl (0, 0))))] [.inl (c0_goalPart_v_p38 f)] (f, l) _
  exact fl_Tq.ret rfl rfl rfl k
noncomputable def y_goal_v (f : t2_F) : Int32 := if (f 280 2).toInt = 0 then (-1 : Int32) else y_goalOf_v_p38 f
theorem y_goal_q {L : Nat} {xs : Nat → Int32} {f : t2_F} {l : t2_L} {Q : Option fl_V → fl_M → Prop}  (hn : 0 ≤ (f 280 2).toInt ∧ (f 280 2).toInt ≤ 16) (hx : ¬ ((f 280 2).toInt = 0) → (y_goalOf_a7_p38 f ((f 280 2).toInt.toNat)).2 ≠ 0) (k : Q (some (.inl (y_goal_v f))) (f, l)) : fl_Tq (pw_P L xs) 300 0 (fl_args (am_mxl (pw_P L xs) 300) [.inr (.inr (.inl (76, 277)))]) [] (f, l) Q := by
  refine fl_Tq.stp (pc' := 1) (lv' := [some (.inr (.inr (.inl (76, 277))))]) (st' := [.inr (.inr (.inl (76, 277)))]) (m' := (f, l)) rfl rfl (fl_bo rfl) rfl ?_
  refine fl_Tq.stp (pc' := 4) (lv' := [some (.inr (.inr (.inl (76, 277))))]) (st' := [.inr (.inr (.inl (79, 280)))]) (m' := (f, l)) rfl rfl (fl_bo rfl) rfl ?_
  refine fl_Tq.cI (c := (2 : Int32)) rfl (by decide +kernel) (fl_bo rfl) ?_
  refine fl_Tq.ldV (p := 280) (τ := 79) (n := 29780) (z := (0, 0, 0)) (k := 2) (v := f 280 2) rfl (fl_bo rfl) rfl (by decide +kernel) (by decide) rfl ?_
  have hj191 : fl_Tq (pw_P L xs) 300 17 [some (.inr (.inr (.inl (76, 277))))] [.inl (if (f 280 2).toInt = 0 then (-1 : Int32) else y_goalOf_v_p38 f)] (f, l) Q → fl_Tq (pw_P L xs) 300 6 [some (.inr (.inr (.inl (76, 277))))] [.inl (f 280 2)] (f, l) Q := by
    intro hJ
    by_cases h1 : (f 280 2).toInt = 0
    · refine fl_Tq.zf rfl (fl_bo rfl) (c1_ne_f h1) rfl ?_
      refine fl_Tq.cI (c := (-1 : Int32)) rfl (by decide +kernel) (fl_bo rfl) ?_
      refine fl_Tq.stp (pc' := 17) (lv' := [some (.inr (.inr (.inl (76, 277))))]) (st' := [.inl (-1 : Int32)]) (m' := (f, l)) rfl rfl (fl_bo rfl) rfl ?_
      have e0 : (if (f 280 2).toInt = 0 then (-1 : Int32) else y_goalOf_v_p38 f) = (-1 : Int32) := by simp only [if_pos h1]
      rw [e0] at hJ
      exact hJ
    · refine fl_Tq.zt rfl (fl_bo rfl) (c1_ne_t h1) rfl ?_
      refine fl_Tq.stp (pc' := 14) (lv' := [some (.inr (.inr (.inl (76, 277))))]) (st' := [.inr (.inr (.inl (76, 277)))]) (m' := (f, l)) rfl rfl (fl_bo rfl) rfl ?_
      refine fl_Tq.cal rfl rfl (fl_bo rfl) rfl ?_
      refine y_goalOf_q_p38 hn (hx h1) ?_
      show fl_Tq _ 300 17 [some (.inr (.inr (.inl (76, 277))))] [.inl (y_goalOf_v_p38 f)] (f, l) _
      have e0 : (if (f 280 2).toInt = 0 then (-1 : Int32) else y_goalOf_v_p38 f) = y_goalOf_v_p38 f := by simp only [if_neg h1]
      rw [e0] at hJ
      exact hJ
  refine hj191 ?_
  show fl_Tq _ 300 17 [some (.inr (.inr (.inl (76, 277))))] [.inl (if (f 280 2).toInt = 0 then (-1 : Int32) else y_goalOf_v_p38 f)] (f, l) _
  exact fl_Tq.ret rfl rfl rfl k
theorem c0_goal_a_p38 {f : t2_F} (I : c0_I f f) : ∀ k : Nat, k ≤ (f 280 2).toInt.toNat → (c0_allCharge_a4 f k = (y_goalOf_a7_p38 f k).1 ∧ c0_allFull_a4 f k = (y_goalOf_a7_p38 f k).2) ∧ (360000 * (k : Int) ≤ (y_goalOf_a7_p38 f k).2.toInt ∧ (y_goalOf_a7_p38 f k).2.toInt ≤ 36000000 * (k : Int)) ∧ 0 ≤ (y_goalOf_a7_p38 f k).1.toInt ∧ (y_goalOf_a7_p38 f k).1.toInt ≤ (y_goalOf_a7_p38 f k).2.toInt := by
  have z : (0 : Int64).toInt = 0 := rfl
  have n16 := I.rhu.1
  intro k
  induction k with
  | zero =>
    intro _
    refine ⟨⟨rfl, rfl⟩, ⟨?_, ?_⟩, ?_, ?_⟩
    · show 360000 * ((0 : Nat) : Int) ≤ (0 : Int64).toInt
      omega
    · show (0 : Int64).toInt ≤ 36000000 * ((0 : Nat) : Int)
      omega
    · show 0 ≤ (0 : Int64).toInt
      omega
    · show (0 : Int64).toInt ≤ (0 : Int64).toInt
      omega
  | succ k ih =>
    intro hk
    obtain ⟨⟨i1, i2⟩, ⟨i3, i4⟩, i5, i6⟩ := ih (by omega)
    obtain ⟨k1, k2, k3⟩ := I.ck (C := k) (by omega)
    have em := t2_36m k1
    obtain ⟨k4, k5⟩ := k1
    have s1 : (y_goalOf_a7_p38 f (k + 1)).1 = (y_goalOf_a7_p38 f k).1 + (f 280 (444 + 61 * k + 1)).toInt64 := rfl
    have s2 : (y_goalOf_a7_p38 f (k + 1)).2 = (y_goalOf_a7_p38 f k).2 + ((3600 : Int32) * (f 280 (444 + 61 * k + 0))).toInt64 := rfl
    have t1 : c0_allCharge_a4 f (k + 1) = c0_allCharge_a4 f k + (f (18 + 4 * k) 2).toInt64 := rfl
    have t2 : c0_allFull_a4 f (k + 1) = c0_allFull_a4 f k + ((f (18 + 4 * k) 0) * (3600 : Int32)).toInt64 := rfl
    have v1 : (y_goalOf_a7_p38 f (k + 1)).1.toInt = (y_goalOf_a7_p38 f k).1.toInt + (f 280 (444 + 61 * k + 1)).toInt := by
      rw [s1, t2_ad64 (by omega) (by rw [t2_i64]; omega), t2_i64]
    have v2 : (y_goalOf_a7_p38 f (k + 1)).2.toInt = (y_goalOf_a7_p38 f k).2.toInt + 3600 * (f 280 (444 + 61 * k + 0)).toInt := by
      rw [s2, t2_ad64 (by omega) (by rw [t2_i64]; omega), t2_i64, em]
    refine ⟨⟨?_, ?_⟩, ⟨?_, ?_⟩, ?_, ?_⟩
    · rw [t1, s1, i1, I.chg (by omega)]
    · rw [t2, s2, i2, I.capa (by omega), Int32.mul_comm]
    · rw [v2]; omega
    · rw [v2]; omega
    · rw [v1]; omega
    · rw [v1, v2]; omega
theorem y_goal_nz_p38 {f : t2_F} (I : c0_I f f) (h : ¬ ((f 280 2).toInt = 0)) : (y_goalOf_a7_p38 f ((f 280 2).toInt.toNat)).2 ≠ 0 := by
  have n16 := I.rhu.1
  have := (c0_goal_a_p38 I _ (Nat.le_refl _)).2.1.1
  exact t2_nz8 (by omega)
theorem c0_goal_e_p38 {f : t2_F} (I : c0_I f f) : c0_goalPart_v_p38 f = if (f 280 2).toInt = 0 then (-1 : Int32) else y_goalOf_v_p38 f := by
  have n16 := I.rhu.1
  obtain ⟨⟨e1, e2⟩, ⟨b1, b2⟩, -, -⟩ := c0_goal_a_p38 I _ (Nat.le_refl _)
  unfold c0_goalPart_v_p38 y_goalOf_v_p38 c0_allFull_v c0_allCharge_v
  rw [show (f 1 5) = f 280 2 from I.1.1.1, e1, e2]
  by_cases h : (f 280 2).toInt = 0
  · rw [if_pos h, if_neg (fun hh => by have := t2_cmp0.mp hh; omega)]
  · rw [if_neg h, if_pos (t2_cmp0.mpr (by omega)), Int64.mul_comm]
/-! ===== goal, on both sides ===== -/
theorem t2_cmp_38 {L : Nat} {xs : Nat → Int32} {f : t2_F} {l : t2_L} (_hall : ∀ c ∈ at_CM ++ at_CA, at_Valid at_XI (pw_P L xs) c) (hg : t2_Z (f, l)) : fl_Tq (pw_P L xs) 139 0 (fl_args (am_mxl (pw_P L xs) 139) [lx_x]) [] (f, l) (t2_End L xs 300 [at_this]) := by
  have I : c0_I f f := hg.2.1
  refine t2_qq (y := y_goal_v f) hg (fun Q k => x_goal_q I.hc ?_) (fun Q k => y_goal_q I.rhu.1 (y_goal_nz_p38 I) k)
  rw [show x_goal_v f = y_goal_v f from c0_goal_e_p38 I]
  exact k

end

/-! 95.05.17p39.lean.txt -/
section
noncomputable def c0_goalPart_v_p39 (f : t2_F) : Int32 := if 0 < (lg_cmp (c0_allFull_v f) (0 : Int64)).toInt then (((c0_allCharge_v f) * (1000 : Int64)) / (c0_allFull_v f)).toInt32 else (-1 : Int32)
theorem c0_goalPart_q_p39 {L : Nat} {xs : Nat → Int32} {f : t2_F} {l : t2_L} {Q : Option fl_V → fl_M → Prop}  (hc : 0 ≤ (f 1 5).toInt ∧ (f 1 5).toInt ≤ 16) (k : Q (some (.inl (c0_goalPart_v_p39 f))) (f, l)) : fl_Tq (pw_P L xs) 44 0 (fl_args (am_mxl (pw_P L xs) 44) [.inr (.inr (.inl (1, 1)))]) [] (f, l) Q := by
  refine fl_Tq.stp (pc' := 1) (lv' := [some (.inr (.inr (.inl (1, 1)))), none, none]) (st' := [.inr (.inr (.inl (1, 1)))]) (m' := (f, l)) rfl rfl (fl_bo rfl) rfl ?_
  refine fl_Tq.cal rfl rfl (fl_bo rfl) rfl ?_
  refine c0_allFull_q hc ?_
  show fl_Tq _ 44 4 [some (.inr (.inr (.inl (1, 1)))), none, none] [.inr (.inl (c0_allFull_v f))] (f, l) _
  refine fl_Tq.stp (pc' := 5) (lv' := [some (.inr (.inr (.inl (1, 1)))), some (.inr (.inl (c0_allFull_v f))), none]) (st' := []) (m' := (f, l)) rfl rfl (fl_bo rfl) rfl ?_
  refine fl_Tq.stp (pc' := 6) (lv' := [some (.inr (.inr (.inl (1, 1)))), some (.inr (.inl (c0_allFull_v f))), none]) (st' := [.inr (.inl (c0_allFull_v f))]) (m' := (f, l)) rfl rfl (fl_bo rfl) rfl ?_
  refine fl_Tq.stp (pc' := 7) (lv' := [some (.inr (.inr (.inl (1, 1)))), some (.inr (.inl (c0_allFull_v f))), none]) (st' := [.inr (.inl (0 : Int64)), .inr (.inl (c0_allFull_v f))]) (m' := (f, l)) rfl rfl (fl_bo rfl) rfl ?_
  refine fl_Tq.stp (pc' := 8) (lv' := [some (.inr (.inr (.inl (1, 1)))), some (.inr (.inl (c0_allFull_v f))), none]) (st' := [.inl (lg_cmp (c0_allFull_v f) (0 : Int64))]) (m' := (f, l)) rfl rfl (fl_bo rfl) rfl ?_
  have hj190 : fl_Tq (pw_P L xs) 44 26 [some (.inr (.inr (.inl (1, 1)))), some (.inr (.inl (c0_allFull_v f))), none] [.inl (if 0 < (lg_cmp (c0_allFull_v f) (0 : Int64)).toInt then (((c0_allCharge_v f) * (1000 : Int64)) / (c0_allFull_v f)).toInt32 else (-1 : Int32))] (f, l) Q → fl_Tq (pw_P L xs) 44 8 [some (.inr (.inr (.inl (1, 1)))), some (.inr (.inl (c0_allFull_v f))), none] [.inl (lg_cmp (c0_allFull_v f) (0 : Int64))] (f, l) Q := by
    intro hJ
    by_cases h1 : 0 < (lg_cmp (c0_allFull_v f) (0 : Int64)).toInt
    · refine fl_Tq.zt rfl (fl_bo rfl) (c1_gt_t h1) rfl ?_
      refine fl_Tq.stp (pc' := 16) (lv' := [some (.inr (.inr (.inl (1, 1)))), some (.inr (.inl (c0_allFull_v f))), none]) (st' := [.inr (.inr (.inl (1, 1)))]) (m' := (f, l)) rfl rfl (fl_bo rfl) rfl ?_
      refine fl_Tq.cal rfl rfl (fl_bo rfl) rfl ?_
      refine c0_allCharge_q hc ?_
      show fl_Tq _ 44 19 [some (.inr (.inr (.inl (1, 1)))), some (.inr (.inl (c0_allFull_v f))), none] [.inr (.inl (c0_allCharge_v f))] (f, l) _
      refine fl_Tq.stp (pc' := 22) (lv' := [some (.inr (.inr (.inl (1, 1)))), some (.inr (.inl (c0_allFull_v f))), none]) (st' := [.inr (.inl (1000 : Int64)), .inr (.inl (c0_allCharge_v f))]) (m' := (f, l)) rfl rfl (fl_bo rfl) rfl ?_
      refine fl_Tq.stp (pc' := 23) (lv' := [some (.inr (.inr (.inl (1, 1)))), some (.inr (.inl (c0_allFull_v f))), none]) (st' := [.inr (.inl ((c0_allCharge_v f) * (1000 : Int64)))]) (m' := (f, l)) rfl rfl (fl_bo rfl) rfl ?_
      refine fl_Tq.stp (pc' := 24) (lv' := [some (.inr (.inr (.inl (1, 1)))), some (.inr (.inl (c0_allFull_v f))), none]) (st' := [.inr (.inl (c0_allFull_v f)), .inr (.inl ((c0_allCharge_v f) * (1000 : Int64)))]) (m' := (f, l)) rfl rfl (fl_bo rfl) rfl ?_
      refine fl_Tq.dvJ rfl (fl_bo rfl) (t2_nzl h1) ?_
      refine fl_Tq.stp (pc' := 26) (lv' := [some (.inr (.inr (.inl (1, 1)))), some (.inr (.inl (c0_allFull_v f))), none]) (st' := [.inl ((((c0_allCharge_v f) * (1000 : Int64)) / (c0_allFull_v f)).toInt32)]) (m' := (f, l)) rfl rfl (fl_bo rfl) rfl ?_
      have e0 : (if 0 < (lg_cmp (c0_allFull_v f) (0 : Int64)).toInt then (((c0_allCharge_v f) * (1000 : Int64)) / (c0_allFull_v f)).toInt32 else (-1 : Int32)) = (((c0_allCharge_v f) * (1000 : Int64)) / (c0_allFull_v f)).toInt32 := by simp only [if_pos h1]
      rw [e0] at hJ
      exact hJ
    · refine fl_Tq.zf rfl (fl_bo rfl) (c1_gt_f h1) rfl ?_
      refine fl_Tq.cI (c := (-1 : Int32)) rfl (by decide +kernel) (fl_bo rfl) ?_
      refine fl_Tq.stp (pc' := 26) (lv' := [some (.inr (.inr (.inl (1, 1)))), some (.inr (.inl (c0_allFull_v f))), none]) (st' := [.inl (-1 : Int32)]) (m' := (f, l)) rfl rfl (fl_bo rfl) rfl ?_
      have e0 : (if 0 < (lg_cmp (c0_allFull_v f) (0 : Int64)).toInt then (((c0_allCharge_v f) * (1000 : Int64)) / (c0_allFull_v f)).toInt32 else (-1 : Int32)) = (-1 : Int32) := by simp only [if_neg h1]
      rw [e0] at hJ
      exact hJ
  refine hj190 ?_
  show fl_Tq _ 44 26 [some (.inr (.inr (.inl (1, 1)))), some (.inr (.inl (c0_allFull_v f))), none] [.inl (if 0 < (lg_cmp (c0_allFull_v f) (0 : Int64)).toInt then (((c0_allCharge_v f) * (1000 : Int64)) / (c0_allFull_v f)).toInt32 else (-1 : Int32))] (f, l) _
  exact fl_Tq.ret rfl rfl rfl k
noncomputable def y_goalOf_a7_p39 (f : t2_F) : Nat → Int64 × Int64
  | 0 => ((0 : Int64), (0 : Int64))
  | k7 + 1 => (((y_goalOf_a7_p39 f k7).1) + ((f 280 (444 + 61 * k7 + 1)).toInt64), ((y_goalOf_a7_p39 f k7).2) + (((3600 : Int32) * (f 280 (444 + 61 * k7 + 0))).toInt64))
noncomputable def y_goalOf_v_p39 (f : t2_F) : Int32 := (((1000 : Int64) * ((y_goalOf_a7_p39 f ((f 280 2).toInt.toNat)).1)) / ((y_goalOf_a7_p39 f ((f 280 2).toInt.toNat)).2)).toInt32
theorem y_goalOf_q_p39 {L : Nat} {xs : Nat → Int32} {f : t2_F} {l : t2_L} {Q : Option fl_V → fl_M → Prop}  (hn : 0 ≤ (f 280 2).toInt ∧ (f 280 2).toInt ≤ 16) (hx : (y_goalOf_a7_p39 f ((f 280 2).toInt.toNat)).2 ≠ 0) (k : Q (some (.inl (y_goalOf_v_p39 f))) (f, l)) : fl_Tq (pw_P L xs) 299 0 (fl_args (am_mxl (pw_P L xs) 299) [.inr (.inr (.inl (76, 277)))]) [] (f, l) Q := by
  refine fl_Tq.stp (pc' := 1) (lv' := [some (.inr (.inr (.inl (76, 277)))), none, none, none, none, none]) (st' := [.inr (.inl (0 : Int64))]) (m' := (f, l)) rfl rfl (fl_bo rfl) rfl ?_
  refine fl_Tq.stp (pc' := 2) (lv' := [some (.inr (.inr (.inl (76, 277)))), some (.inr (.inl (0 : Int64))), none, none, none, none]) (st' := []) (m' := (f, l)) rfl rfl (fl_bo rfl) rfl ?_
  refine fl_Tq.stp (pc' := 3) (lv' := [some (.inr (.inr (.inl (76, 277)))), some (.inr (.inl (0 : Int64))), none, none, none, none]) (st' := [.inr (.inl (0 : Int64))]) (m' := (f, l)) rfl rfl (fl_bo rfl) rfl ?_
  refine fl_Tq.stp (pc' := 4) (lv' := [some (.inr (.inr (.inl (76, 277)))), some (.inr (.inl (0 : Int64))), none, some (.inr (.inl (0 : Int64))), none, none]) (st' := []) (m' := (f, l)) rfl rfl (fl_bo rfl) rfl ?_
  refine fl_Tq.cI (c := (0 : Int32)) rfl (by decide +kernel) (fl_bo rfl) ?_
  refine fl_Tq.stp (pc' := 7) (lv' := [some (.inr (.inr (.inl (76, 277)))), some (.inr (.inl (0 : Int64))), none, some (.inr (.inl (0 : Int64))), none, some (.inl (0 : Int32))]) (st' := []) (m' := (f, l)) rfl rfl (fl_bo rfl) rfl ?_
  have hs7 : ∀ k7 : Nat, k7 < (f 280 2).toInt.toNat → fl_Tq (pw_P L xs) 299 7 [some (.inr (.inr (.inl (76, 277)))), some (.inr (.inl ((y_goalOf_a7_p39 f (k7 + 1)).1))), none, some (.inr (.inl ((y_goalOf_a7_p39 f (k7 + 1)).2))), none, some (.inl (Int32.ofNat (k7 + 1)))] [] (f, l) Q → fl_Tq (pw_P L xs) 299 7 [some (.inr (.inr (.inl (76, 277)))), some (.inr (.inl ((y_goalOf_a7_p39 f k7).1))), none, some (.inr (.inl ((y_goalOf_a7_p39 f k7).2))), none, some (.inl (Int32.ofNat k7))] [] (f, l) Q := by
    intro k7 hk7 hS
    refine fl_Tq.stp (pc' := 9) (lv' := [some (.inr (.inr (.inl (76, 277)))), some (.inr (.inl ((y_goalOf_a7_p39 f k7).1))), none, some (.inr (.inl ((y_goalOf_a7_p39 f k7).2))), none, some (.inl (Int32.ofNat k7))]) (st' := [.inl (Int32.ofNat k7)]) (m' := (f, l)) rfl rfl (fl_bo rfl) rfl ?_
    refine fl_Tq.stp (pc' := 10) (lv' := [some (.inr (.inr (.inl (76, 277)))), some (.inr (.inl ((y_goalOf_a7_p39 f k7).1))), none, some (.inr (.inl ((y_goalOf_a7_p39 f k7).2))), none, some (.inl (Int32.ofNat k7))]) (st' := [.inr (.inr (.inl (76, 277))), .inl (Int32.ofNat k7)]) (m' := (f, l)) rfl rfl (fl_bo rfl) rfl ?_
    refine fl_Tq.stp (pc' := 13) (lv' := [some (.inr (.inr (.inl (76, 277)))), some (.inr (.inl ((y_goalOf_a7_p39 f k7).1))), none, some (.inr (.inl ((y_goalOf_a7_p39 f k7).2))), none, some (.inl (Int32.ofNat k7))]) (st' := [.inr (.inr (.inl (79, 280))), .inl (Int32.ofNat k7)]) (m' := (f, l)) rfl rfl (fl_bo rfl) rfl ?_
    refine fl_Tq.cI (c := (2 : Int32)) rfl (by decide +kernel) (fl_bo rfl) ?_
    refine fl_Tq.ldV (p := 280) (τ := 79) (n := 29780) (z := (0, 0, 0)) (k := 2) (v := f 280 2) rfl (fl_bo rfl) rfl (by decide +kernel) (by decide) rfl ?_
    refine fl_Tq.jf rfl (fl_bo rfl) (c2_ge_f (t2_lk hk7 (t2_nn hn.1))) rfl ?_
    refine fl_Tq.stp (pc' := 19) (lv' := [some (.inr (.inr (.inl (76, 277)))), some (.inr (.inl ((y_goalOf_a7_p39 f k7).1))), none, some (.inr (.inl ((y_goalOf_a7_p39 f k7).2))), none, some (.inl (Int32.ofNat k7))]) (st' := [.inr (.inl ((y_goalOf_a7_p39 f k7).1))]) (m' := (f, l)) rfl rfl (fl_bo rfl) rfl ?_
    refine fl_Tq.stp (pc' := 20) (lv' := [some (.inr (.inr (.inl (76, 277)))), some (.inr (.inl ((y_goalOf_a7_p39 f k7).1))), none, some (.inr (.inl ((y_goalOf_a7_p39 f k7).2))), none, some (.inl (Int32.ofNat k7))]) (st' := [.inr (.inr (.inl (76, 277))), .inr (.inl ((y_goalOf_a7_p39 f k7).1))]) (m' := (f, l)) rfl rfl (fl_bo rfl) rfl ?_
    refine fl_Tq.stp (pc' := 22) (lv' := [some (.inr (.inr (.inl (76, 277)))), some (.inr (.inl ((y_goalOf_a7_p39 f k7).1))), none, some (.inr (.inl ((y_goalOf_a7_p39 f k7).2))), none, some (.inl (Int32.ofNat k7))]) (st' := [.inl (Int32.ofNat k7), .inr (.inr (.inl (76, 277))), .inr (.inl ((y_goalOf_a7_p39 f k7).1))]) (m' := (f, l)) rfl rfl (fl_bo rfl) rfl ?_
    refine fl_Tq.cI (c := (1 : Int32)) rfl (by decide +kernel) (fl_bo rfl) ?_
    refine fl_Tq.cal rfl rfl (fl_bo rfl) rfl ?_
    refine t2_get (C := k7) (W := 1) (v := f 280 (444 + 61 * k7 + 1)) (at_ofN (by omega)) (by decide +kernel) (by omega) (by decide) rfl ?_
    show fl_Tq _ 299 26 [some (.inr (.inr (.inl (76, 277)))), some (.inr (.inl ((y_goalOf_a7_p39 f k7).1))), none, some (.inr (.inl ((y_goalOf_a7_p39 f k7).2))), none, some (.inl (Int32.ofNat k7))] [.inl (f 280 (444 + 61 * k7 + 1)), .inr (.inl ((y_goalOf_a7_p39 f k7).1))] (f, l) _
    refine fl_Tq.stp (pc' := 27) (lv' := [some (.inr (.inr (.inl (76, 277)))), some (.inr (.inl ((y_goalOf_a7_p39 f k7).1))), none, some (.inr (.inl ((y_goalOf_a7_p39 f k7).2))), none, some (.inl (Int32.ofNat k7))]) (st' := [.inr (.inl ((f 280 (444 + 61 * k7 + 1)).toInt64)), .inr (.inl ((y_goalOf_a7_p39 f k7).1))]) (m' := (f, l)) rfl rfl (fl_bo rfl) rfl ?_
    refine fl_Tq.stp (pc' := 28) (lv' := [some (.inr (.inr (.inl (76, 277)))), some (.inr (.inl ((y_goalOf_a7_p39 f k7).1))), none, some (.inr (.inl ((y_goalOf_a7_p39 f k7).2))), none, some (.inl (Int32.ofNat k7))]) (st' := [.inr (.inl (((y_goalOf_a7_p39 f k7).1) + ((f 280 (444 + 61 * k7 + 1)).toInt64)))]) (m' := (f, l)) rfl rfl (fl_bo rfl) rfl ?_
    refine fl_Tq.stp (pc' := 29) (lv' := [some (.inr (.inr (.inl (76, 277)))), some (.inr (.inl (((y_goalOf_a7_p39 f k7).1) + ((f 280 (444 + 61 * k7 + 1)).toInt64)))), none, some (.inr (.inl ((y_goalOf_a7_p39 f k7).2))), none, some (.inl (Int32.ofNat k7))]) (st' := []) (m' := (f, l)) rfl rfl (fl_bo rfl) rfl ?_
    refine fl_Tq.stp (pc' := 30) (lv' := [some (.inr (.inr (.inl (76, 277)))), some (.inr (.inl (((y_goalOf_a7_p39 f k7).1) + ((f 280 (444 + 61 * k7 + 1)).toInt64)))), none, some (.inr (.inl ((y_goalOf_a7_p39 f k7).2))), none, some (.inl (Int32.ofNat k7))]) (st' := [.inr (.inl ((y_goalOf_a7_p39 f k7).2))]) (m' := (f, l)) rfl rfl (fl_bo rfl) rfl ?_
    refine fl_Tq.stp (pc' := 31) (lv' := [some (.inr (.inr (.inl (76, 277)))), some (.inr (.inl (((y_goalOf_a7_p39 f k7).1) + ((f 280 (444 + 61 * k7 + 1)).toInt64)))), none, some (.inr (.inl ((y_goalOf_a7_p39 f k7).2))), none, some (.inl (Int32.ofNat k7))]) (st' := [.inr (.inr (.inl (76, 277))), .inr (.inl ((y_goalOf_a7_p39 f k7).2))]) (m' := (f, l)) rfl rfl (fl_bo rfl) rfl ?_
    refine fl_Tq.stp (pc' := 33) (lv' := [some (.inr (.inr (.inl (76, 277)))), some (.inr (.inl (((y_goalOf_a7_p39 f k7).1) + ((f 280 (444 + 61 * k7 + 1)).toInt64)))), none, some (.inr (.inl ((y_goalOf_a7_p39 f k7).2))), none, some (.inl (Int32.ofNat k7))]) (st' := [.inl (Int32.ofNat k7), .inr (.inr (.inl (76, 277))), .inr (.inl ((y_goalOf_a7_p39 f k7).2))]) (m' := (f, l)) rfl rfl (fl_bo rfl) rfl ?_
    refine fl_Tq.cal rfl rfl (fl_bo rfl) rfl ?_
    refine fl_Tq.cS (c := (3600 : Int32)) rfl (by decide +kernel) (fl_bo rfl) ?_
    refine fl_Tq.stp (pc' := 4) (lv' := [some (.inr (.inr (.inl (76, 277)))), some (.inl (Int32.ofNat k7))]) (st' := [.inr (.inr (.inl (76, 277))), .inl (3600 : Int32)]) (m' := (f, l)) rfl rfl (fl_bo rfl) rfl ?_
    refine fl_Tq.stp (pc' := 5) (lv' := [some (.inr (.inr (.inl (76, 277)))), some (.inl (Int32.ofNat k7))]) (st' := [.inl (Int32.ofNat k7), .inr (.inr (.inl (76, 277))), .inl (3600 : Int32)]) (m' := (f, l)) rfl rfl (fl_bo rfl) rfl ?_
    refine fl_Tq.cI (c := (0 : Int32)) rfl (by decide +kernel) (fl_bo rfl) ?_
    refine fl_Tq.cal rfl rfl (fl_bo rfl) rfl ?_
    refine t2_get (C := k7) (W := 0) (v := f 280 (444 + 61 * k7 + 0)) (at_ofN (by omega)) (by decide +kernel) (by omega) (by decide) rfl ?_
    show fl_Tq _ 195 9 [some (.inr (.inr (.inl (76, 277)))), some (.inl (Int32.ofNat k7))] [.inl (f 280 (444 + 61 * k7 + 0)), .inl (3600 : Int32)] (f, l) _
    refine fl_Tq.stp (pc' := 10) (lv' := [some (.inr (.inr (.inl (76, 277)))), some (.inl (Int32.ofNat k7))]) (st' := [.inl ((3600 : Int32) * (f 280 (444 + 61 * k7 + 0)))]) (m' := (f, l)) rfl rfl (fl_bo rfl) rfl ?_
    refine fl_Tq.ret rfl rfl rfl ?_
    show fl_Tq _ 299 36 [some (.inr (.inr (.inl (76, 277)))), some (.inr (.inl (((y_goalOf_a7_p39 f k7).1) + ((f 280 (444 + 61 * k7 + 1)).toInt64)))), none, some (.inr (.inl ((y_goalOf_a7_p39 f k7).2))), none, some (.inl (Int32.ofNat k7))] [.inl ((3600 : Int32) * (f 280 (444 + 61 * k7 + 0))), .inr (.inl ((y_goalOf_a7_p39 f k7).2))] (f, l) _
    refine fl_Tq.stp (pc' := 37) (lv' := [some (.inr (.inr (.inl (76, 277)))), some (.inr (.inl (((y_goalOf_a7_p39 f k7).1) + ((f 280 (444 + 61 * k7 + 1)).toInt64)))), none, some (.inr (.inl ((y_goalOf_a7_p39 f k7).2))), none, some (.inl (Int32.ofNat k7))]) (st' := [.inr (.inl (((3600 : Int32) * (f 280 (444 + 61 * k7 + 0))).toInt64)), .inr (.inl ((y_goalOf_a7_p39 f k7).2))]) (m' := (f, l)) rfl rfl (fl_bo rfl) rfl ?_
    refine fl_Tq.stp (pc' := 38) (lv' := [some (.inr (.inr (.inl (76, 277)))), some (.inr (.inl (((y_goalOf_a7_p39 f k7).1) + ((f 280 (444 + 61 * k7 + 1)).toInt64)))), none, some (.inr (.inl ((y_goalOf_a7_p39 f k7).2))), none, some (.inl (Int32.ofNat k7))]) (st' := [.inr (.inl (((y_goalOf_a7_p39 f k7).2) + (((3600 : Int32) * (f 280 (444 + 61 * k7 + 0))).toInt64)))]) (m' := (f, l)) rfl rfl (fl_bo rfl) rfl ?_
    refine fl_Tq.stp (pc' := 39) (lv' := [some (.inr (.inr (.inl (76, 277)))), some (.inr (.inl (((y_goalOf_a7_p39 f k7).1) + ((f 280 (444 + 61 * k7 + 1)).toInt64)))), none, some (.inr (.inl (((y_goalOf_a7_p39 f k7).2) + (((3600 : Int32) * (f 280 (444 + 61 * k7 + 0))).toInt64)))), none, some (.inl (Int32.ofNat k7))]) (st' := []) (m' := (f, l)) rfl rfl (fl_bo rfl) rfl ?_
    refine fl_Tq.stp (pc' := 42) (lv' := [some (.inr (.inr (.inl (76, 277)))), some (.inr (.inl (((y_goalOf_a7_p39 f k7).1) + ((f 280 (444 + 61 * k7 + 1)).toInt64)))), none, some (.inr (.inl (((y_goalOf_a7_p39 f k7).2) + (((3600 : Int32) * (f 280 (444 + 61 * k7 + 0))).toInt64)))), none, some (.inl ((Int32.ofNat k7) + (1 : Int32)))]) (st' := []) (m' := (f, l)) rfl rfl (fl_bo rfl) rfl ?_
    refine fl_Tq.stp (pc' := 7) (lv' := [some (.inr (.inr (.inl (76, 277)))), some (.inr (.inl (((y_goalOf_a7_p39 f k7).1) + ((f 280 (444 + 61 * k7 + 1)).toInt64)))), none, some (.inr (.inl (((y_goalOf_a7_p39 f k7).2) + (((3600 : Int32) * (f 280 (444 + 61 * k7 + 0))).toInt64)))), none, some (.inl ((Int32.ofNat k7) + (1 : Int32)))]) (st' := []) (m' := (f, l)) rfl rfl (fl_bo rfl) rfl ?_
    have ea : y_goalOf_a7_p39 f (k7 + 1) = (((y_goalOf_a7_p39 f k7).1) + ((f 280 (444 + 61 * k7 + 1)).toInt64), ((y_goalOf_a7_p39 f k7).2) + (((3600 : Int32) * (f 280 (444 + 61 * k7 + 0))).toInt64)) := by
      show ((((y_goalOf_a7_p39 f k7).1) + ((f 280 (444 + 61 * k7 + 1)).toInt64), ((y_goalOf_a7_p39 f k7).2) + (((3600 : Int32) * (f 280 (444 + 61 * k7 + 0))).toInt64))) = _
      rfl
    rw [ea, ← t2_k1] at hS
    exact hS
  refine t2_for (S := fun k7 => fl_Tq (pw_P L xs) 299 7 [some (.inr (.inr (.inl (76, 277)))), some (.inr (.inl ((y_goalOf_a7_p39 f k7).1))), none, some (.inr (.inl ((y_goalOf_a7_p39 f k7).2))), none, some (.inl (Int32.ofNat k7))] [] (f, l) Q) hs7 ?_
  show fl_Tq (pw_P L xs) 299 7 [some (.inr (.inr (.inl (76, 277)))), some (.inr (.inl ((y_goalOf_a7_p39 f ((f 280 2).toInt.toNat)).1))), none, some (.inr (.inl ((y_goalOf_a7_p39 f ((f 280 2).toInt.toNat)).2))), none, some (.inl (Int32.ofNat ((f 280 2).toInt.toNat)))] [] (f, l) _
  refine fl_Tq.stp (pc' := 9) (lv' := [some (.inr (.inr (.inl (76, 277)))), some (.inr (.inl ((y_goalOf_a7_p39 f ((f 280 2).toInt.toNat)).1))), none, some (.inr (.inl ((y_goalOf_a7_p39 f ((f 280 2).toInt.toNat)).2))), none, some (.inl (Int32.ofNat ((f 280 2).toInt.toNat)))]) (st' := [.inl (Int32.ofNat ((f 280 2).toInt.toNat))]) (m' := (f, l)) rfl rfl (fl_bo rfl) rfl ?_
  refine fl_Tq.stp (pc' := 10) (lv' := [some (.inr (.inr (.inl (76, 277)))), some (.inr (.inl ((y_goalOf_a7_p39 f ((f 280 2).toInt.toNat)).1))), none, some (.inr (.inl ((y_goalOf_a7_p39 f ((f 280 2).toInt.toNat)).2))), none, some (.inl (Int32.ofNat ((f 280 2).toInt.toNat)))]) (st' := [.inr (.inr (.inl (76, 277))), .inl (Int32.ofNat ((f 280 2).toInt.toNat))]) (m' := (f, l)) rfl rfl (fl_bo rfl) rfl ?_
  refine fl_Tq.stp (pc' := 13) (lv' := [some (.inr (.inr (.inl (76, 277)))), some (.inr (.inl ((y_goalOf_a7_p39 f ((f 280 2).toInt.toNat)).1))), none, some (.inr (.inl ((y_goalOf_a7_p39 f ((f 280 2).toInt.toNat)).2))), none, some (.inl (Int32.ofNat ((f 280 2).toInt.toNat)))]) (st' := [.inr (.inr (.inl (79, 280))), .inl (Int32.ofNat ((f 280 2).toInt.toNat))]) (m' := (f, l)) rfl rfl (fl_bo rfl) rfl ?_
  refine fl_Tq.cI (c := (2 : Int32)) rfl (by decide +kernel) (fl_bo rfl) ?_
  refine fl_Tq.ldV (p := 280) (τ := 79) (n := 29780) (z := (0, 0, 0)) (k := 2) (v := f 280 2) rfl (fl_bo rfl) rfl (by decide +kernel) (by decide) rfl ?_
  refine fl_Tq.jt rfl (fl_bo rfl) (c2_ge_t (t2_ln (t2_nn hn.1))) rfl ?_
  refine fl_Tq.stp (pc' := 48) (lv' := [some (.inr (.inr (.inl (76, 277)))), some (.inr (.inl ((y_goalOf_a7_p39 f ((f 280 2).toInt.toNat)).1))), none, some (.inr (.inl ((y_goalOf_a7_p39 f ((f 280 2).toInt.toNat)).2))), none, some (.inl (Int32.ofNat ((f 280 2).toInt.toNat)))]) (st' := [.inr (.inl (1000 : Int64))]) (m' := (f, l)) rfl rfl (fl_bo rfl) rfl ?_
  refine fl_Tq.stp (pc' := 49) (lv' := [some (.inr (.inr (.inl (76, 277)))), some (.inr (.inl ((y_goalOf_a7_p39 f ((f 280 2).toInt.toNat)).1))), none, some (.inr (.inl ((y_goalOf_a7_p39 f ((f 280 2).toInt.toNat)).2))), none, some (.inl (Int32.ofNat ((f 280 2).toInt.toNat)))]) (st' := [.inr (.inl ((y_goalOf_a7_p39 f ((f 280 2).toInt.toNat)).1)), .inr (.inl (1000 : Int64))]) (m' := (f, l)) rfl rfl (fl_bo rfl) rfl ?_
  refine fl_Tq.stp (pc' := 50) (lv' := [some (.inr (.inr (.inl (76, 277)))), some (.inr (.inl ((y_goalOf_a7_p39 f ((f 280 2).toInt.toNat)).1))), none, some (.inr (.inl ((y_goalOf_a7_p39 f ((f 280 2).toInt.toNat)).2))), none, some (.inl (Int32.ofNat ((f 280 2).toInt.toNat)))]) (st' := [.inr (.inl ((1000 : Int64) * ((y_goalOf_a7_p39 f ((f 280 2).toInt.toNat)).1)))]) (m' := (f, l)) rfl rfl (fl_bo rfl) rfl ?_
  refine fl_Tq.stp (pc' := 51) (lv' := [some (.inr (.inr (.inl (76, 277)))), some (.inr (.inl ((y_goalOf_a7_p39 f ((f 280 2).toInt.toNat)).1))), none, some (.inr (.inl ((y_goalOf_a7_p39 f ((f 280 2).toInt.toNat)).2))), none, some (.inl (Int32.ofNat ((f 280 2).toInt.toNat)))]) (st' := [.inr (.inl ((y_goalOf_a7_p39 f ((f 280 2).toInt.toNat)).2)), .inr (.inl ((1000 : Int64) * ((y_goalOf_a7_p39 f ((f 280 2).toInt.toNat)).1)))]) (m' := (f, l)) rfl rfl (fl_bo rfl) rfl ?_
  refine fl_Tq.dvJ rfl (fl_bo rfl) hx ?_
  refine fl_Tq.stp (pc' := 53) (lv' := [some (.inr (.inr (.inl (76, 277)))), some (.inr (.inl ((y_goalOf_a7_p39 f ((f 280 2).toInt.toNat)).1))), none, some (.inr (.inl ((y_goalOf_a7_p39 f ((f 280 2).toInt.toNat)).2))), none, some (.inl (Int32.ofNat ((f 280 2).toInt.toNat)))]) (st' := [.inl ((((1000 : Int64) * ((y_goalOf_a7_p39 f ((f 280 2).toInt.toNat)).1)) / ((y_goalOf_a7_p39 f ((f 280 2).toInt.toNat)).2)).toInt32)]) (m' := (f, l)) rfl rfl (fl_bo rfl) rfl ?_
  exact fl_Tq.ret rfl rfl rfl k
noncomputable def x_flow_a33 (f : t2_F) (a : Int32) : Nat → Int32
  | 0 => (0 : Int32)
  | k33 + 1 => (x_flow_a33 f a k33) + ((f (18 + 4 * k33) 2) - (t2_chargeBy_v (c0_goalPart_v_p39 f) (f (18 + 4 * k33) 0)))
noncomputable def x_flow_v (f : t2_F) (a : Int32) : Int32 := if (t2_within_v a (0 : Int32) ((f 1 5) - (2 : Int32))).toInt = 0 then (-1000000000 : Int32) else x_flow_a33 f a (a.toInt.toNat + 1)
theorem x_flow_q {L : Nat} {xs : Nat → Int32} {f : t2_F} {l : t2_L} {Q : Option fl_V → fl_M → Prop} {a : Int32} (hc : 0 ≤ (f 1 5).toInt ∧ (f 1 5).toInt ≤ 16) (k : Q (some (.inl (x_flow_v f a))) (f, l)) : fl_Tq (pw_P L xs) 140 0 (fl_args (am_mxl (pw_P L xs) 140) [.inr (.inr (.inl (0, 0))), .inl a]) [] (f, l) Q := by
  refine fl_Tq.stp (pc' := 1) (lv' := [some (.inr (.inr (.inl (0, 0)))), some (.inl a), none, none, none]) (st' := [.inl a]) (m' := (f, l)) rfl rfl (fl_bo rfl) rfl ?_
  refine fl_Tq.cI (c := (0 : Int32)) rfl (by decide +kernel) (fl_bo rfl) ?_
  refine fl_Tq.stp (pc' := 3) (lv' := [some (.inr (.inr (.inl (0, 0)))), some (.inl a), none, none, none]) (st' := [.inr (.inr (.inl (0, 0))), .inl (0 : Int32), .inl a]) (m' := (f, l)) rfl rfl (fl_bo rfl) rfl ?_
  refine fl_Tq.stp (pc' := 6) (lv' := [some (.inr (.inr (.inl (0, 0)))), some (.inl a), none, none, none]) (st' := [.inr (.inr (.inl (1, 1))), .inl (0 : Int32), .inl a]) (m' := (f, l)) rfl rfl (fl_bo rfl) rfl ?_
  refine fl_Tq.gfV (k := 5) (v := f 1 5) rfl (fl_bo rfl) rfl rfl ?_
  refine fl_Tq.cI (c := (2 : Int32)) rfl (by decide +kernel) (fl_bo rfl) ?_
  refine fl_Tq.stp (pc' := 11) (lv' := [some (.inr (.inr (.inl (0, 0)))), some (.inl a), none, none, none]) (st' := [.inl ((f 1 5) - (2 : Int32)), .inl (0 : Int32), .inl a]) (m' := (f, l)) rfl rfl (fl_bo rfl) rfl ?_
  refine fl_Tq.cal rfl rfl (fl_bo rfl) rfl ?_
  refine t2_within_q  ?_
  show fl_Tq _ 140 14 [some (.inr (.inr (.inl (0, 0)))), some (.inl a), none, none, none] [.inl (t2_within_v a (0 : Int32) ((f 1 5) - (2 : Int32)))] (f, l) _
  by_cases h1 : (t2_within_v a (0 : Int32) ((f 1 5) - (2 : Int32))).toInt = 0
  · refine fl_Tq.zf rfl (fl_bo rfl) (c1_ne_f h1) rfl ?_
    refine fl_Tq.stp (pc' := 19) (lv' := [some (.inr (.inr (.inl (0, 0)))), some (.inl a), none, none, none]) (st' := [.inl (-1000000000 : Int32)]) (m' := (f, l)) rfl rfl (fl_bo rfl) rfl ?_
    refine fl_Tq.ret rfl rfl rfl ?_
    unfold x_flow_v at k
    simp only [if_pos h1] at k
    exact k
  · refine fl_Tq.zt rfl (fl_bo rfl) (c1_ne_t h1) rfl ?_
    refine fl_Tq.stp (pc' := 21) (lv' := [some (.inr (.inr (.inl (0, 0)))), some (.inl a), none, none, none]) (st' := [.inr (.inr (.inl (0, 0)))]) (m' := (f, l)) rfl rfl (fl_bo rfl) rfl ?_
    refine fl_Tq.stp (pc' := 24) (lv' := [some (.inr (.inr (.inl (0, 0)))), some (.inl a), none, none, none]) (st' := [.inr (.inr (.inl (1, 1)))]) (m' := (f, l)) rfl rfl (fl_bo rfl) rfl ?_
    refine fl_Tq.cal rfl rfl (fl_bo rfl) rfl ?_
    refine c0_goalPart_q_p39 hc ?_
    show fl_Tq _ 140 27 [some (.inr (.inr (.inl (0, 0)))), some (.inl a), none, none, none] [.inl (c0_goalPart_v_p39 f)] (f, l) _
    refine fl_Tq.stp (pc' := 28) (lv' := [some (.inr (.inr (.inl (0, 0)))), some (.inl a), some (.inl (c0_goalPart_v_p39 f)), none, none]) (st' := []) (m' := (f, l)) rfl rfl (fl_bo rfl) rfl ?_
    refine fl_Tq.cI (c := (0 : Int32)) rfl (by decide +kernel) (fl_bo rfl) ?_
    refine fl_Tq.stp (pc' := 30) (lv' := [some (.inr (.inr (.inl (0, 0)))), some (.inl a), some (.inl (c0_goalPart_v_p39 f)), some (.inl (0 : Int32)), none]) (st' := []) (m' := (f, l)) rfl rfl (fl_bo rfl) rfl ?_
    refine fl_Tq.cI (c := (0 : Int32)) rfl (by decide +kernel) (fl_bo rfl) ?_
    refine fl_Tq.stp (pc' := 33) (lv' := [some (.inr (.inr (.inl (0, 0)))), some (.inl a), some (.inl (c0_goalPart_v_p39 f)), some (.inl (0 : Int32)), some (.inl (0 : Int32))]) (st' := []) (m' := (f, l)) rfl rfl (fl_bo rfl) rfl ?_
    have hs33 : ∀ k33 : Nat, k33 < (a.toInt.toNat + 1) → fl_Tq (pw_P L xs) 140 33 [some (.inr (.inr (.inl (0, 0)))), some (.inl a), some (.inl (c0_goalPart_v_p39 f)), some (.inl (x_flow_a33 f a (k33 + 1))), some (.inl (Int32.ofNat (k33 + 1)))] [] (f, l) Q → fl_Tq (pw_P L xs) 140 33 [some (.inr (.inr (.inl (0, 0)))), some (.inl a), some (.inl (c0_goalPart_v_p39 f)), some (.inl (x_flow_a33 f a k33)), some (.inl (Int32.ofNat k33))] [] (f, l) Q := by
      intro k33 hk33 hS
      refine fl_Tq.stp (pc' := 35) (lv' := [some (.inr (.inr (.inl (0, 0)))), some (.inl a), some (.inl (c0_goalPart_v_p39 f)), some (.inl (x_flow_a33 f a k33)), some (.inl (Int32.ofNat k33))]) (st' := [.inl (Int32.ofNat k33)]) (m' := (f, l)) rfl rfl (fl_bo rfl) rfl ?_
      refine fl_Tq.stp (pc' := 36) (lv' := [some (.inr (.inr (.inl (0, 0)))), some (.inl a), some (.inl (c0_goalPart_v_p39 f)), some (.inl (x_flow_a33 f a k33)), some (.inl (Int32.ofNat k33))]) (st' := [.inl a, .inl (Int32.ofNat k33)]) (m' := (f, l)) rfl rfl (fl_bo rfl) rfl ?_
      refine fl_Tq.jf rfl (fl_bo rfl) (c2_gt_f (t2_fl1 (t2_flw hc h1) hk33)) rfl ?_
      refine fl_Tq.stp (pc' := 40) (lv' := [some (.inr (.inr (.inl (0, 0)))), some (.inl a), some (.inl (c0_goalPart_v_p39 f)), some (.inl (x_flow_a33 f a k33)), some (.inl (Int32.ofNat k33))]) (st' := [.inl (x_flow_a33 f a k33)]) (m' := (f, l)) rfl rfl (fl_bo rfl) rfl ?_
      refine fl_Tq.stp (pc' := 41) (lv' := [some (.inr (.inr (.inl (0, 0)))), some (.inl a), some (.inl (c0_goalPart_v_p39 f)), some (.inl (x_flow_a33 f a k33)), some (.inl (Int32.ofNat k33))]) (st' := [.inr (.inr (.inl (0, 0))), .inl (x_flow_a33 f a k33)]) (m' := (f, l)) rfl rfl (fl_bo rfl) rfl ?_
      refine fl_Tq.stp (pc' := 44) (lv' := [some (.inr (.inr (.inl (0, 0)))), some (.inl a), some (.inl (c0_goalPart_v_p39 f)), some (.inl (x_flow_a33 f a k33)), some (.inl (Int32.ofNat k33))]) (st' := [.inr (.inr (.inl (1, 1))), .inl (x_flow_a33 f a k33)]) (m' := (f, l)) rfl rfl (fl_bo rfl) rfl ?_
      refine fl_Tq.stp (pc' := 47) (lv' := [some (.inr (.inr (.inl (0, 0)))), some (.inl a), some (.inl (c0_goalPart_v_p39 f)), some (.inl (x_flow_a33 f a k33)), some (.inl (Int32.ofNat k33))]) (st' := [.inr (.inr (.inl (2, 2))), .inl (x_flow_a33 f a k33)]) (m' := (f, l)) rfl rfl (fl_bo rfl) rfl ?_
      refine fl_Tq.stp (pc' := 49) (lv' := [some (.inr (.inr (.inl (0, 0)))), some (.inl a), some (.inl (c0_goalPart_v_p39 f)), some (.inl (x_flow_a33 f a k33)), some (.inl (Int32.ofNat k33))]) (st' := [.inl (Int32.ofNat k33), .inr (.inr (.inl (2, 2))), .inl (x_flow_a33 f a k33)]) (m' := (f, l)) rfl rfl (fl_bo rfl) rfl ?_
      refine fl_Tq.qld (p := 2) (τ := 2) (n := 16) (t := 18) (b := 16) (d := 3) (k := k33) rfl (fl_bo rfl) rfl (at_ofN (by have := t2_flw hc h1; omega)) (by have := t2_flw hc h1; omega) ?_
      show fl_Tq _ 140 50 [some (.inr (.inr (.inl (0, 0)))), some (.inl a), some (.inl (c0_goalPart_v_p39 f)), some (.inl (x_flow_a33 f a k33)), some (.inl (Int32.ofNat k33))] [.inr (.inr (.inl (18, 18 + 4 * k33))), .inl (x_flow_a33 f a k33)] (f, l) _
      refine fl_Tq.gfV (k := 2) (v := f (18 + 4 * k33) 2) rfl (fl_oks_ok ⟨(t2_kc0 (by have := t2_flw hc h1; omega)), True.intro, True.intro⟩) rfl rfl ?_
      refine fl_Tq.stp (pc' := 54) (lv' := [some (.inr (.inr (.inl (0, 0)))), some (.inl a), some (.inl (c0_goalPart_v_p39 f)), some (.inl (x_flow_a33 f a k33)), some (.inl (Int32.ofNat k33))]) (st' := [.inl (c0_goalPart_v_p39 f), .inl (f (18 + 4 * k33) 2), .inl (x_flow_a33 f a k33)]) (m' := (f, l)) rfl rfl (fl_bo rfl) rfl ?_
      refine fl_Tq.stp (pc' := 55) (lv' := [some (.inr (.inr (.inl (0, 0)))), some (.inl a), some (.inl (c0_goalPart_v_p39 f)), some (.inl (x_flow_a33 f a k33)), some (.inl (Int32.ofNat k33))]) (st' := [.inr (.inr (.inl (0, 0))), .inl (c0_goalPart_v_p39 f), .inl (f (18 + 4 * k33) 2), .inl (x_flow_a33 f a k33)]) (m' := (f, l)) rfl rfl (fl_bo rfl) rfl ?_
      refine fl_Tq.stp (pc' := 58) (lv' := [some (.inr (.inr (.inl (0, 0)))), some (.inl a), some (.inl (c0_goalPart_v_p39 f)), some (.inl (x_flow_a33 f a k33)), some (.inl (Int32.ofNat k33))]) (st' := [.inr (.inr (.inl (1, 1))), .inl (c0_goalPart_v_p39 f), .inl (f (18 + 4 * k33) 2), .inl (x_flow_a33 f a k33)]) (m' := (f, l)) rfl rfl (fl_bo rfl) rfl ?_
      refine fl_Tq.stp (pc' := 61) (lv' := [some (.inr (.inr (.inl (0, 0)))), some (.inl a), some (.inl (c0_goalPart_v_p39 f)), some (.inl (x_flow_a33 f a k33)), some (.inl (Int32.ofNat k33))]) (st' := [.inr (.inr (.inl (2, 2))), .inl (c0_goalPart_v_p39 f), .inl (f (18 + 4 * k33) 2), .inl (x_flow_a33 f a k33)]) (m' := (f, l)) rfl rfl (fl_bo rfl) rfl ?_
      refine fl_Tq.stp (pc' := 63) (lv' := [some (.inr (.inr (.inl (0, 0)))), some (.inl a), some (.inl (c0_goalPart_v_p39 f)), some (.inl (x_flow_a33 f a k33)), some (.inl (Int32.ofNat k33))]) (st' := [.inl (Int32.ofNat k33), .inr (.inr (.inl (2, 2))), .inl (c0_goalPart_v_p39 f), .inl (f (18 + 4 * k33) 2), .inl (x_flow_a33 f a k33)]) (m' := (f, l)) rfl rfl (fl_bo rfl) rfl ?_
      refine fl_Tq.qld (p := 2) (τ := 2) (n := 16) (t := 18) (b := 16) (d := 3) (k := k33) rfl (fl_bo rfl) rfl (at_ofN (by have := t2_flw hc h1; omega)) (by have := t2_flw hc h1; omega) ?_
      show fl_Tq _ 140 64 [some (.inr (.inr (.inl (0, 0)))), some (.inl a), some (.inl (c0_goalPart_v_p39 f)), some (.inl (x_flow_a33 f a k33)), some (.inl (Int32.ofNat k33))] [.inr (.inr (.inl (18, 18 + 4 * k33))), .inl (c0_goalPart_v_p39 f), .inl (f (18 + 4 * k33) 2), .inl (x_flow_a33 f a k33)] (f, l) _
      refine fl_Tq.gfV (k := 0) (v := f (18 + 4 * k33) 0) rfl (fl_oks_ok ⟨(t2_kc0 (by have := t2_flw hc h1; omega)), True.intro, True.intro, True.intro, True.intro⟩) rfl rfl ?_
      refine fl_Tq.cal rfl rfl (fl_bo rfl) rfl ?_
      refine t2_chargeBy_q  ?_
      show fl_Tq _ 140 70 [some (.inr (.inr (.inl (0, 0)))), some (.inl a), some (.inl (c0_goalPart_v_p39 f)), some (.inl (x_flow_a33 f a k33)), some (.inl (Int32.ofNat k33))] [.inl (t2_chargeBy_v (c0_goalPart_v_p39 f) (f (18 + 4 * k33) 0)), .inl (f (18 + 4 * k33) 2), .inl (x_flow_a33 f a k33)] (f, l) _
      refine fl_Tq.stp (pc' := 71) (lv' := [some (.inr (.inr (.inl (0, 0)))), some (.inl a), some (.inl (c0_goalPart_v_p39 f)), some (.inl (x_flow_a33 f a k33)), some (.inl (Int32.ofNat k33))]) (st' := [.inl ((f (18 + 4 * k33) 2) - (t2_chargeBy_v (c0_goalPart_v_p39 f) (f (18 + 4 * k33) 0))), .inl (x_flow_a33 f a k33)]) (m' := (f, l)) rfl rfl (fl_bo rfl) rfl ?_
      refine fl_Tq.stp (pc' := 72) (lv' := [some (.inr (.inr (.inl (0, 0)))), some (.inl a), some (.inl (c0_goalPart_v_p39 f)), some (.inl (x_flow_a33 f a k33)), some (.inl (Int32.ofNat k33))]) (st' := [.inl ((x_flow_a33 f a k33) + ((f (18 + 4 * k33) 2) - (t2_chargeBy_v (c0_goalPart_v_p39 f) (f (18 + 4 * k33) 0))))]) (m' := (f, l)) rfl rfl (fl_bo rfl) rfl ?_
      refine fl_Tq.stp (pc' := 73) (lv' := [some (.inr (.inr (.inl (0, 0)))), some (.inl a), some (.inl (c0_goalPart_v_p39 f)), some (.inl ((x_flow_a33 f a k33) + ((f (18 + 4 * k33) 2) - (t2_chargeBy_v (c0_goalPart_v_p39 f) (f (18 + 4 * k33) 0))))), some (.inl (Int32.ofNat k33))]) (st' := []) (m' := (f, l)) rfl rfl (fl_bo rfl) rfl ?_
      refine fl_Tq.stp (pc' := 76) (lv' := [some (.inr (.inr (.inl (0, 0)))), some (.inl a), some (.inl (c0_goalPart_v_p39 f)), some (.inl ((x_flow_a33 f a k33) + ((f (18 + 4 * k33) 2) - (t2_chargeBy_v (c0_goalPart_v_p39 f) (f (18 + 4 * k33) 0))))), some (.inl ((Int32.ofNat k33) + (1 : Int32)))]) (st' := []) (m' := (f, l)) rfl rfl (fl_bo rfl) rfl ?_
      refine fl_Tq.stp (pc' := 33) (lv' := [some (.inr (.inr (.inl (0, 0)))), some (.inl a), some (.inl (c0_goalPart_v_p39 f)), some (.inl ((x_flow_a33 f a k33) + ((f (18 + 4 * k33) 2) - (t2_chargeBy_v (c0_goalPart_v_p39 f) (f (18 + 4 * k33) 0))))), some (.inl ((Int32.ofNat k33) + (1 : Int32)))]) (st' := []) (m' := (f, l)) rfl rfl (fl_bo rfl) rfl ?_
      have ea : x_flow_a33 f a (k33 + 1) = (x_flow_a33 f a k33) + ((f (18 + 4 * k33) 2) - (t2_chargeBy_v (c0_goalPart_v_p39 f) (f (18 + 4 * k33) 0))) := by
        show ((x_flow_a33 f a k33) + ((f (18 + 4 * k33) 2) - (t2_chargeBy_v (c0_goalPart_v_p39 f) (f (18 + 4 * k33) 0)))) = _
        rfl
      rw [ea, ← t2_k1] at hS
      exact hS
    refine t2_for (S := fun k33 => fl_Tq (pw_P L xs) 140 33 [some (.inr (.inr (.inl (0, 0)))), some (.inl a), some (.inl (c0_goalPart_v_p39 f)), some (.inl (x_flow_a33 f a k33)), some (.inl (Int32.ofNat k33))] [] (f, l) Q) hs33 ?_
    show fl_Tq (pw_P L xs) 140 33 [some (.inr (.inr (.inl (0, 0)))), some (.inl a), some (.inl (c0_goalPart_v_p39 f)), some (.inl (x_flow_a33 f a (a.toInt.toNat + 1))), some (.inl (Int32.ofNat (a.toInt.toNat + 1)))] [] (f, l) _
    refine fl_Tq.stp (pc' := 35) (lv' := [some (.inr (.inr (.inl (0, 0)))), some (.inl a), some (.inl (c0_goalPart_v_p39 f)), some (.inl (x_flow_a33 f a (a.toInt.toNat + 1))), some (.inl (Int32.ofNat (a.toInt.toNat + 1)))]) (st' := [.inl (Int32.ofNat (a.toInt.toNat + 1))]) (m' := (f, l)) rfl rfl (fl_bo rfl) rfl ?_
    refine fl_Tq.stp (pc' := 36) (lv' := [some (.inr (.inr (.inl (0, 0)))), some (.inl a), some (.inl (c0_goalPart_v_p39 f)), some (.inl (x_flow_a33 f a (a.toInt.toNat + 1))), some (.inl (Int32.ofNat (a.toInt.toNat + 1)))]) (st' := [.inl a, .inl (Int32.ofNat (a.toInt.toNat + 1))]) (m' := (f, l)) rfl rfl (fl_bo rfl) rfl ?_
    refine fl_Tq.jt rfl (fl_bo rfl) (c2_gt_t (t2_fl2 (t2_flw hc h1))) rfl ?_
    refine fl_Tq.stp (pc' := 80) (lv' := [some (.inr (.inr (.inl (0, 0)))), some (.inl a), some (.inl (c0_goalPart_v_p39 f)), some (.inl (x_flow_a33 f a (a.toInt.toNat + 1))), some (.inl (Int32.ofNat (a.toInt.toNat + 1)))]) (st' := [.inl (x_flow_a33 f a (a.toInt.toNat + 1))]) (m' := (f, l)) rfl rfl (fl_bo rfl) rfl ?_
    refine fl_Tq.ret rfl rfl rfl ?_
    unfold x_flow_v at k
    simp only [if_neg h1] at k
    exact k
noncomputable def y_flow_a24 (f : t2_F) (a : Int32) : Nat → Int32
  | 0 => (0 : Int32)
  | k24 + 1 => (y_flow_a24 f a k24) + ((f 280 (444 + 61 * k24 + 1)) - (r_chargeAt_v f (Int32.ofNat k24) k24 (y_goalOf_v_p39 f)))
noncomputable def y_flow_v (f : t2_F) (a : Int32) : Int32 := if (r_isIn_v a (0 : Int32) ((f 280 2) - (2 : Int32))).toInt = 0 then (-1000000000 : Int32) else y_flow_a24 f a (a.toInt.toNat + 1)
theorem y_flow_q {L : Nat} {xs : Nat → Int32} {f : t2_F} {l : t2_L} {Q : Option fl_V → fl_M → Prop} {a : Int32} (hn : 0 ≤ (f 280 2).toInt ∧ (f 280 2).toInt ≤ 16) (hx : ¬ ((f 280 2).toInt = 0) → (y_goalOf_a7_p39 f ((f 280 2).toInt.toNat)).2 ≠ 0) (k : Q (some (.inl (y_flow_v f a))) (f, l)) : fl_Tq (pw_P L xs) 301 0 (fl_args (am_mxl (pw_P L xs) 301) [.inr (.inr (.inl (76, 277))), .inl a]) [] (f, l) Q := by
  refine fl_Tq.stp (pc' := 1) (lv' := [some (.inr (.inr (.inl (76, 277)))), some (.inl a), none, none]) (st' := [.inl a]) (m' := (f, l)) rfl rfl (fl_bo rfl) rfl ?_
  refine fl_Tq.cI (c := (0 : Int32)) rfl (by decide +kernel) (fl_bo rfl) ?_
  refine fl_Tq.stp (pc' := 3) (lv' := [some (.inr (.inr (.inl (76, 277)))), some (.inl a), none, none]) (st' := [.inr (.inr (.inl (76, 277))), .inl (0 : Int32), .inl a]) (m' := (f, l)) rfl rfl (fl_bo rfl) rfl ?_
  refine fl_Tq.stp (pc' := 6) (lv' := [some (.inr (.inr (.inl (76, 277)))), some (.inl a), none, none]) (st' := [.inr (.inr (.inl (79, 280))), .inl (0 : Int32), .inl a]) (m' := (f, l)) rfl rfl (fl_bo rfl) rfl ?_
  refine fl_Tq.cI (c := (2 : Int32)) rfl (by decide +kernel) (fl_bo rfl) ?_
  refine fl_Tq.ldV (p := 280) (τ := 79) (n := 29780) (z := (0, 0, 0)) (k := 2) (v := f 280 2) rfl (fl_bo rfl) rfl (by decide +kernel) (by decide) rfl ?_
  refine fl_Tq.cI (c := (2 : Int32)) rfl (by decide +kernel) (fl_bo rfl) ?_
  refine fl_Tq.stp (pc' := 10) (lv' := [some (.inr (.inr (.inl (76, 277)))), some (.inl a), none, none]) (st' := [.inl ((f 280 2) - (2 : Int32)), .inl (0 : Int32), .inl a]) (m' := (f, l)) rfl rfl (fl_bo rfl) rfl ?_
  refine fl_Tq.cal rfl rfl (fl_bo rfl) rfl ?_
  refine r_isIn_q  ?_
  show fl_Tq _ 301 13 [some (.inr (.inr (.inl (76, 277)))), some (.inl a), none, none] [.inl (r_isIn_v a (0 : Int32) ((f 280 2) - (2 : Int32)))] (f, l) _
  by_cases h1 : (r_isIn_v a (0 : Int32) ((f 280 2) - (2 : Int32))).toInt = 0
  · refine fl_Tq.zf rfl (fl_bo rfl) (c1_ne_f h1) rfl ?_
    refine fl_Tq.stp (pc' := 19) (lv' := [some (.inr (.inr (.inl (76, 277)))), some (.inl a), none, none]) (st' := [.inl (-1000000000 : Int32)]) (m' := (f, l)) rfl rfl (fl_bo rfl) rfl ?_
    refine fl_Tq.ret rfl rfl rfl ?_
    unfold y_flow_v at k
    simp only [if_pos h1] at k
    exact k
  · refine fl_Tq.zt rfl (fl_bo rfl) (c1_ne_t h1) rfl ?_
    refine fl_Tq.cI (c := (0 : Int32)) rfl (by decide +kernel) (fl_bo rfl) ?_
    refine fl_Tq.stp (pc' := 22) (lv' := [some (.inr (.inr (.inl (76, 277)))), some (.inl a), some (.inl (0 : Int32)), none]) (st' := []) (m' := (f, l)) rfl rfl (fl_bo rfl) rfl ?_
    refine fl_Tq.cI (c := (0 : Int32)) rfl (by decide +kernel) (fl_bo rfl) ?_
    refine fl_Tq.stp (pc' := 24) (lv' := [some (.inr (.inr (.inl (76, 277)))), some (.inl a), some (.inl (0 : Int32)), some (.inl (0 : Int32))]) (st' := []) (m' := (f, l)) rfl rfl (fl_bo rfl) rfl ?_
    have hs24 : ∀ k24 : Nat, k24 < (a.toInt.toNat + 1) → fl_Tq (pw_P L xs) 301 24 [some (.inr (.inr (.inl (76, 277)))), some (.inl a), some (.inl (y_flow_a24 f a (k24 + 1))), some (.inl (Int32.ofNat (k24 + 1)))] [] (f, l) Q → fl_Tq (pw_P L xs) 301 24 [some (.inr (.inr (.inl (76, 277)))), some (.inl a), some (.inl (y_flow_a24 f a k24)), some (.inl (Int32.ofNat k24))] [] (f, l) Q := by
      intro k24 hk24 hS
      refine fl_Tq.stp (pc' := 25) (lv' := [some (.inr (.inr (.inl (76, 277)))), some (.inl a), some (.inl (y_flow_a24 f a k24)), some (.inl (Int32.ofNat k24))]) (st' := [.inl (Int32.ofNat k24)]) (m' := (f, l)) rfl rfl (fl_bo rfl) rfl ?_
      refine fl_Tq.stp (pc' := 26) (lv' := [some (.inr (.inr (.inl (76, 277)))), some (.inl a), some (.inl (y_flow_a24 f a k24)), some (.inl (Int32.ofNat k24))]) (st' := [.inl a, .inl (Int32.ofNat k24)]) (m' := (f, l)) rfl rfl (fl_bo rfl) rfl ?_
      refine fl_Tq.jf rfl (fl_bo rfl) (c2_gt_f (t2_fl1 (t2_flw hn h1) hk24)) rfl ?_
      refine fl_Tq.stp (pc' := 30) (lv' := [some (.inr (.inr (.inl (76, 277)))), some (.inl a), some (.inl (y_flow_a24 f a k24)), some (.inl (Int32.ofNat k24))]) (st' := [.inl (y_flow_a24 f a k24)]) (m' := (f, l)) rfl rfl (fl_bo rfl) rfl ?_
      refine fl_Tq.stp (pc' := 31) (lv' := [some (.inr (.inr (.inl (76, 277)))), some (.inl a), some (.inl (y_flow_a24 f a k24)), some (.inl (Int32.ofNat k24))]) (st' := [.inr (.inr (.inl (76, 277))), .inl (y_flow_a24 f a k24)]) (m' := (f, l)) rfl rfl (fl_bo rfl) rfl ?_
      refine fl_Tq.stp (pc' := 32) (lv' := [some (.inr (.inr (.inl (76, 277)))), some (.inl a), some (.inl (y_flow_a24 f a k24)), some (.inl (Int32.ofNat k24))]) (st' := [.inl (Int32.ofNat k24), .inr (.inr (.inl (76, 277))), .inl (y_flow_a24 f a k24)]) (m' := (f, l)) rfl rfl (fl_bo rfl) rfl ?_
      refine fl_Tq.cI (c := (1 : Int32)) rfl (by decide +kernel) (fl_bo rfl) ?_
      refine fl_Tq.cal rfl rfl (fl_bo rfl) rfl ?_
      refine t2_get (C := k24) (W := 1) (v := f 280 (444 + 61 * k24 + 1)) (at_ofN (by have := t2_flw hn h1; omega)) (by decide +kernel) (by have := t2_flw hn h1; omega) (by decide) rfl ?_
      show fl_Tq _ 301 36 [some (.inr (.inr (.inl (76, 277)))), some (.inl a), some (.inl (y_flow_a24 f a k24)), some (.inl (Int32.ofNat k24))] [.inl (f 280 (444 + 61 * k24 + 1)), .inl (y_flow_a24 f a k24)] (f, l) _
      refine fl_Tq.stp (pc' := 37) (lv' := [some (.inr (.inr (.inl (76, 277)))), some (.inl a), some (.inl (y_flow_a24 f a k24)), some (.inl (Int32.ofNat k24))]) (st' := [.inr (.inr (.inl (76, 277))), .inl (f 280 (444 + 61 * k24 + 1)), .inl (y_flow_a24 f a k24)]) (m' := (f, l)) rfl rfl (fl_bo rfl) rfl ?_
      refine fl_Tq.stp (pc' := 38) (lv' := [some (.inr (.inr (.inl (76, 277)))), some (.inl a), some (.inl (y_flow_a24 f a k24)), some (.inl (Int32.ofNat k24))]) (st' := [.inl (Int32.ofNat k24), .inr (.inr (.inl (76, 277))), .inl (f 280 (444 + 61 * k24 + 1)), .inl (y_flow_a24 f a k24)]) (m' := (f, l)) rfl rfl (fl_bo rfl) rfl ?_
      refine fl_Tq.stp (pc' := 39) (lv' := [some (.inr (.inr (.inl (76, 277)))), some (.inl a), some (.inl (y_flow_a24 f a k24)), some (.inl (Int32.ofNat k24))]) (st' := [.inr (.inr (.inl (76, 277))), .inl (Int32.ofNat k24), .inr (.inr (.inl (76, 277))), .inl (f 280 (444 + 61 * k24 + 1)), .inl (y_flow_a24 f a k24)]) (m' := (f, l)) rfl rfl (fl_bo rfl) rfl ?_
      refine fl_Tq.cal rfl rfl (fl_bo rfl) rfl ?_
      refine y_goalOf_q_p39 hn (hx (by have := t2_flw hn h1; omega)) ?_
      show fl_Tq _ 301 42 [some (.inr (.inr (.inl (76, 277)))), some (.inl a), some (.inl (y_flow_a24 f a k24)), some (.inl (Int32.ofNat k24))] [.inl (y_goalOf_v_p39 f), .inl (Int32.ofNat k24), .inr (.inr (.inl (76, 277))), .inl (f 280 (444 + 61 * k24 + 1)), .inl (y_flow_a24 f a k24)] (f, l) _
      refine fl_Tq.cal rfl rfl (fl_bo rfl) rfl ?_
      refine r_chargeAt_q (at_ofN (by have := t2_flw hn h1; omega)) (by have := t2_flw hn h1; omega) ?_
      show fl_Tq _ 301 45 [some (.inr (.inr (.inl (76, 277)))), some (.inl a), some (.inl (y_flow_a24 f a k24)), some (.inl (Int32.ofNat k24))] [.inl (r_chargeAt_v f (Int32.ofNat k24) k24 (y_goalOf_v_p39 f)), .inl (f 280 (444 + 61 * k24 + 1)), .inl (y_flow_a24 f a k24)] (f, l) _
      refine fl_Tq.stp (pc' := 46) (lv' := [some (.inr (.inr (.inl (76, 277)))), some (.inl a), some (.inl (y_flow_a24 f a k24)), some (.inl (Int32.ofNat k24))]) (st' := [.inl ((f 280 (444 + 61 * k24 + 1)) - (r_chargeAt_v f (Int32.ofNat k24) k24 (y_goalOf_v_p39 f))), .inl (y_flow_a24 f a k24)]) (m' := (f, l)) rfl rfl (fl_bo rfl) rfl ?_
      refine fl_Tq.stp (pc' := 47) (lv' := [some (.inr (.inr (.inl (76, 277)))), some (.inl a), some (.inl (y_flow_a24 f a k24)), some (.inl (Int32.ofNat k24))]) (st' := [.inl ((y_flow_a24 f a k24) + ((f 280 (444 + 61 * k24 + 1)) - (r_chargeAt_v f (Int32.ofNat k24) k24 (y_goalOf_v_p39 f))))]) (m' := (f, l)) rfl rfl (fl_bo rfl) rfl ?_
      refine fl_Tq.stp (pc' := 48) (lv' := [some (.inr (.inr (.inl (76, 277)))), some (.inl a), some (.inl ((y_flow_a24 f a k24) + ((f 280 (444 + 61 * k24 + 1)) - (r_chargeAt_v f (Int32.ofNat k24) k24 (y_goalOf_v_p39 f))))), some (.inl (Int32.ofNat k24))]) (st' := []) (m' := (f, l)) rfl rfl (fl_bo rfl) rfl ?_
      refine fl_Tq.stp (pc' := 51) (lv' := [some (.inr (.inr (.inl (76, 277)))), some (.inl a), some (.inl ((y_flow_a24 f a k24) + ((f 280 (444 + 61 * k24 + 1)) - (r_chargeAt_v f (Int32.ofNat k24) k24 (y_goalOf_v_p39 f))))), some (.inl ((Int32.ofNat k24) + (1 : Int32)))]) (st' := []) (m' := (f, l)) rfl rfl (fl_bo rfl) rfl ?_
      refine fl_Tq.stp (pc' := 24) (lv' := [some (.inr (.inr (.inl (76, 277)))), some (.inl a), some (.inl ((y_flow_a24 f a k24) + ((f 280 (444 + 61 * k24 + 1)) - (r_chargeAt_v f (Int32.ofNat k24) k24 (y_goalOf_v_p39 f))))), some (.inl ((Int32.ofNat k24) + (1 : Int32)))]) (st' := []) (m' := (f, l)) rfl rfl (fl_bo rfl) rfl ?_
      have ea : y_flow_a24 f a (k24 + 1) = (y_flow_a24 f a k24) + ((f 280 (444 + 61 * k24 + 1)) - (r_chargeAt_v f (Int32.ofNat k24) k24 (y_goalOf_v_p39 f))) := by
        show ((y_flow_a24 f a k24) + ((f 280 (444 + 61 * k24 + 1)) - (r_chargeAt_v f (Int32.ofNat k24) k24 (y_goalOf_v_p39 f)))) = _
        rfl
      rw [ea, ← t2_k1] at hS
      exact hS
    refine t2_for (S := fun k24 => fl_Tq (pw_P L xs) 301 24 [some (.inr (.inr (.inl (76, 277)))), some (.inl a), some (.inl (y_flow_a24 f a k24)), some (.inl (Int32.ofNat k24))] [] (f, l) Q) hs24 ?_
    show fl_Tq (pw_P L xs) 301 24 [some (.inr (.inr (.inl (76, 277)))), some (.inl a), some (.inl (y_flow_a24 f a (a.toInt.toNat + 1))), some (.inl (Int32.ofNat (a.toInt.toNat + 1)))] [] (f, l) _
    refine fl_Tq.stp (pc' := 25) (lv' := [some (.inr (.inr (.inl (76, 277)))), some (.inl a), some (.inl (y_flow_a24 f a (a.toInt.toNat + 1))), some (.inl (Int32.ofNat (a.toInt.toNat + 1)))]) (st' := [.inl (Int32.ofNat (a.toInt.toNat + 1))]) (m' := (f, l)) rfl rfl (fl_bo rfl) rfl ?_
    refine fl_Tq.stp (pc' := 26) (lv' := [some (.inr (.inr (.inl (76, 277)))), some (.inl a), some (.inl (y_flow_a24 f a (a.toInt.toNat + 1))), some (.inl (Int32.ofNat (a.toInt.toNat + 1)))]) (st' := [.inl a, .inl (Int32.ofNat (a.toInt.toNat + 1))]) (m' := (f, l)) rfl rfl (fl_bo rfl) rfl ?_
    refine fl_Tq.jt rfl (fl_bo rfl) (c2_gt_t (t2_fl2 (t2_flw hn h1))) rfl ?_
    refine fl_Tq.stp (pc' := 55) (lv' := [some (.inr (.inr (.inl (76, 277)))), some (.inl a), some (.inl (y_flow_a24 f a (a.toInt.toNat + 1))), some (.inl (Int32.ofNat (a.toInt.toNat + 1)))]) (st' := [.inl (y_flow_a24 f a (a.toInt.toNat + 1))]) (m' := (f, l)) rfl rfl (fl_bo rfl) rfl ?_
    refine fl_Tq.ret rfl rfl rfl ?_
    unfold y_flow_v at k
    simp only [if_neg h1] at k
    exact k
theorem c0_goal_a_p39 {f : t2_F} (I : c0_I f f) : ∀ k : Nat, k ≤ (f 280 2).toInt.toNat → (c0_allCharge_a4 f k = (y_goalOf_a7_p39 f k).1 ∧ c0_allFull_a4 f k = (y_goalOf_a7_p39 f k).2) ∧ (360000 * (k : Int) ≤ (y_goalOf_a7_p39 f k).2.toInt ∧ (y_goalOf_a7_p39 f k).2.toInt ≤ 36000000 * (k : Int)) ∧ 0 ≤ (y_goalOf_a7_p39 f k).1.toInt ∧ (y_goalOf_a7_p39 f k).1.toInt ≤ (y_goalOf_a7_p39 f k).2.toInt := by
  have z : (0 : Int64).toInt = 0 := rfl
  have n16 := I.rhu.1
  intro k
  induction k with
  | zero =>
    intro _
    refine ⟨⟨rfl, rfl⟩, ⟨?_, ?_⟩, ?_, ?_⟩
    · show 360000 * ((0 : Nat) : Int) ≤ (0 : Int64).toInt
      omega
    · show (0 : Int64).toInt ≤ 36000000 * ((0 : Nat) : Int)
      omega
    · show 0 ≤ (0 : Int64).toInt
      omega
    · show (0 : Int64).toInt ≤ (0 : Int64).toInt
      omega
  | succ k ih =>
    intro hk
    obtain ⟨⟨i1, i2⟩, ⟨i3, i4⟩, i5, i6⟩ := ih (by omega)
    obtain ⟨k1, k2, k3⟩ := I.ck (C := k) (by omega)
    have em := t2_36m k1
    obtain ⟨k4, k5⟩ := k1
    have s1 : (y_goalOf_a7_p39 f (k + 1)).1 = (y_goalOf_a7_p39 f k).1 + (f 280 (444 + 61 * k + 1)).toInt64 := rfl
    have s2 : (y_goalOf_a7_p39 f (k + 1)).2 = (y_goalOf_a7_p39 f k).2 + ((3600 : Int32) * (f 280 (444 + 61 * k + 0))).toInt64 := rfl
    have t1 : c0_allCharge_a4 f (k + 1) = c0_allCharge_a4 f k + (f (18 + 4 * k) 2).toInt64 := rfl
    have t2 : c0_allFull_a4 f (k + 1) = c0_allFull_a4 f k + ((f (18 + 4 * k) 0) * (3600 : Int32)).toInt64 := rfl
    have v1 : (y_goalOf_a7_p39 f (k + 1)).1.toInt = (y_goalOf_a7_p39 f k).1.toInt + (f 280 (444 + 61 * k + 1)).toInt := by
      rw [s1, t2_ad64 (by omega) (by rw [t2_i64]; omega), t2_i64]
    have v2 : (y_goalOf_a7_p39 f (k + 1)).2.toInt = (y_goalOf_a7_p39 f k).2.toInt + 3600 * (f 280 (444 + 61 * k + 0)).toInt := by
      rw [s2, t2_ad64 (by omega) (by rw [t2_i64]; omega), t2_i64, em]
    refine ⟨⟨?_, ?_⟩, ⟨?_, ?_⟩, ?_, ?_⟩
    · rw [t1, s1, i1, I.chg (by omega)]
    · rw [t2, s2, i2, I.capa (by omega), Int32.mul_comm]
    · rw [v2]; omega
    · rw [v2]; omega
    · rw [v1]; omega
    · rw [v1, v2]; omega
theorem y_goal_nz_p39 {f : t2_F} (I : c0_I f f) (h : ¬ ((f 280 2).toInt = 0)) : (y_goalOf_a7_p39 f ((f 280 2).toInt.toNat)).2 ≠ 0 := by
  have n16 := I.rhu.1
  have := (c0_goal_a_p39 I _ (Nat.le_refl _)).2.1.1
  exact t2_nz8 (by omega)
theorem c0_goal_e {f : t2_F} (I : c0_I f f) : c0_goalPart_v_p39 f = if (f 280 2).toInt = 0 then (-1 : Int32) else y_goalOf_v_p39 f := by
  have n16 := I.rhu.1
  obtain ⟨⟨e1, e2⟩, ⟨b1, b2⟩, -, -⟩ := c0_goal_a_p39 I _ (Nat.le_refl _)
  unfold c0_goalPart_v_p39 y_goalOf_v_p39 c0_allFull_v c0_allCharge_v
  rw [show (f 1 5) = f 280 2 from I.1.1.1, e1, e2]
  by_cases h : (f 280 2).toInt = 0
  · rw [if_pos h, if_neg (fun hh => by have := t2_cmp0.mp hh; omega)]
  · rw [if_neg h, if_pos (t2_cmp0.mpr (by omega)), Int64.mul_comm]
theorem y_goal_b {f : t2_F} (I : c0_I f f) (h : ¬ ((f 280 2).toInt = 0)) : 0 ≤ (y_goalOf_v_p39 f).toInt ∧ (y_goalOf_v_p39 f).toInt ≤ 1000 := by
  have n16 := I.rhu.1
  obtain ⟨-, ⟨b1, b2⟩, b3, b4⟩ := c0_goal_a_p39 I _ (Nat.le_refl _)
  unfold y_goalOf_v_p39
  generalize (y_goalOf_a7_p39 f ((f 280 2).toInt.toNat)).1 = s at b3 b4
  generalize (y_goalOf_a7_p39 f ((f 280 2).toInt.toNat)).2 = t at b1 b2 b4
  have k1 : (1000 : Int64).toInt = 1000 := by decide +kernel
  have e1 : ((1000 : Int64) * s).toInt = 1000 * s.toInt := by
    rw [Int64.toInt_mul, k1]
    exact Int.bmod_eq_of_le (by omega) (by omega)
  have q0 : 0 ≤ 1000 * s.toInt / t.toInt := Int.ediv_nonneg (by omega) (by omega)
  have q1 : 1000 * s.toInt / t.toInt ≤ 1000 := Int.ediv_le_of_le_mul (by omega) (by omega)
  have e2 : (((1000 : Int64) * s) / t).toInt = 1000 * s.toInt / t.toInt := by
    rw [Int64.toInt_div, e1, Int.tdiv_eq_ediv_of_nonneg (by omega)]
    exact Int.bmod_eq_of_le (by omega) (by omega)
  have e3 : (((1000 : Int64) * s) / t).toInt32.toInt = 1000 * s.toInt / t.toInt := by
    rw [Int64.toInt_toInt32, e2]
    exact Int.bmod_eq_of_le (by omega) (by omega)
  rw [e3]
  exact ⟨q0, q1⟩
theorem x_flow_e {f : t2_F} {a : Int32} (I : c0_I f f) : x_flow_v f a = y_flow_v f a := by
  have n16 := I.rhu.1
  unfold x_flow_v y_flow_v
  rw [show (f 1 5) = f 280 2 from I.1.1.1]
  by_cases h : (t2_within_v a (0 : Int32) ((f 280 2) - (2 : Int32))).toInt = 0
  · rw [if_pos h]
    exact (if_pos h).symm
  rw [if_neg h]
  refine Eq.trans ?_ (if_neg h).symm
  have ha := t2_flw n16 h
  have nz : ¬ ((f 280 2).toInt = 0) := by omega
  have eg : c0_goalPart_v_p39 f = y_goalOf_v_p39 f := by rw [c0_goal_e I, if_neg nz]
  have gb := y_goal_b I nz
  have a1 : ∀ k : Nat, k ≤ (f 280 2).toInt.toNat → x_flow_a33 f a k = y_flow_a24 f a k := by
    intro k
    induction k with
    | zero => intro _; rfl
    | succ k ih =>
      intro hk
      show x_flow_a33 f a k + ((f (18 + 4 * k) 2) - (t2_chargeBy_v (c0_goalPart_v_p39 f) (f (18 + 4 * k) 0))) = y_flow_a24 f a k + ((f 280 (444 + 61 * k + 1)) - (r_chargeAt_v f (Int32.ofNat k) k (y_goalOf_v_p39 f)))
      rw [ih (by omega), eg, t2_cha (I.ck (by omega)) gb, I.chg (by omega), I.capa (by omega)]
  exact a1 _ (by omega)
/-! ===== flow, on both sides ===== -/
theorem t2_cmp_39 {L : Nat} {xs : Nat → Int32} {f : t2_F} {l : t2_L} {a : Int32} (_hall : ∀ c ∈ at_CM ++ at_CA, at_Valid at_XI (pw_P L xs) c) (hg : t2_Z (f, l)) : fl_Tq (pw_P L xs) 140 0 (fl_args (am_mxl (pw_P L xs) 140) [lx_x, .inl a]) [] (f, l) (t2_End L xs 301 [at_this, .inl a]) := by
  have I : c0_I f f := hg.2.1
  refine t2_qq (y := y_flow_v f a) hg (fun Q k => x_flow_q I.hc ?_) (fun Q k => y_flow_q I.rhu.1 (y_goal_nz_p39 I) k)
  rw [x_flow_e I]
  exact k

end
