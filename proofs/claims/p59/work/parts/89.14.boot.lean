/-! ===== the two constructors, from the empty heap ===== -/
def at_m1 : fl_M := ((fun p j => if p < 285 then (at_i0 p).getD j 0 else at_W0 ((p - 285) % 90) j), (fun _ _ => 0), 0)
def at_m0 : fl_M := bl_cp 280 0 281 0 29780 at_m1
theorem nw_ckr_ok {N n s : Nat} {wl : Nat → List Int32} {lv : am_L} {st : List Value} {r : Option (am_L × List Value × nw_H)} (h : nw_ckr N wl lv st n s r = true) : ∃ H : nw_H, r = some (lv, st, H) ∧ H.1.length = n ∧ H.2 = s ∧ nw_ckl N wl 0 H.1 = true := by
  unfold nw_ckr at h
  split at h
  · rename_i lv' st' H
    simp only [Bool.and_eq_true, decide_eq_true_eq] at h
    obtain ⟨h1, h2, h3, h4, h5⟩ := h
    subst h1 h2
    exact ⟨H, rfl, Nat.eq_of_beq_eq_true h3, Nat.eq_of_beq_eq_true h4, h5⟩
  · cases h
theorem at_made0 {H1 H3 : nw_H} (l1 : H1.1.length = 277) (s1 : H1.2 = 5395) (c1 : nw_ckl 0 at_i0 0 H1.1 = true) (l3 : H3.1.length = 8) (s3 : H3.2 = 77355) (c3 : nw_ckl 277 (fun r => at_i0 (277 + r)) 0 H3.1 = true) : nw_h (nw_h ([], 0) H1) H3 = fl_H at_m1 := by
  unfold nw_h
  refine Prod.ext ?_ ?_
  · show ([] ++ H1.1.map nw_o) ++ H3.1.map nw_o = (fl_H at_m1).1
    refine List.ext_getElem? (fun p => ?_)
    have hl1 : ([] ++ H1.1.map nw_o : List am_O).length = 277 := by simp [l1]
    have hw : ∀ q : Nat, q < 285 → at_m1.1 q = fun j => (at_i0 q).getD j 0 := fun q hq => by
      funext j
      show (if q < 285 then (at_i0 q).getD j 0 else at_W0 ((q - 285) % 90) j) = _
      rw [if_pos hq]
    by_cases hp : p < 277
    · rw [List.getElem?_append_left (by rw [hl1]; exact hp), List.nil_append, nw_ckl_ok H1.1 0 c1 p (by omega), fl_get (m := at_m1) (show p < fl_N 0 by unfold fl_N; omega), hw p (by omega)]
      have e : 0 + (0 + p) = p := by omega
      have e2 : 0 + p = p := by omega
      rw [e, e2]
      rfl
    · rw [List.getElem?_append_right (by rw [hl1]; omega), hl1]
      by_cases hp2 : p < 285
      · rw [nw_ckl_ok H3.1 0 c3 (p - 277) (by omega), fl_get (m := at_m1) (show p < fl_N 0 by unfold fl_N; omega), hw p hp2]
        have e : 277 + (0 + (p - 277)) = p := by omega
        rw [e]
        rfl
      · rw [List.getElem?_eq_none (by rw [List.length_map]; omega), List.getElem?_eq_none (by unfold fl_H; simp; show fl_N 0 ≤ p; unfold fl_N; omega)]
  · show 0 + H1.2 + H3.2 = fl_S 0
    unfold fl_S
    omega
theorem pw_cod {L : Nat} {xs : Nat → Int32} {mi pc : Nat} {ins : Instr} (h : pw_code mi pc = some ins) : am_code (pw_P L xs) mi pc = some ins := h
set_option maxRecDepth 1000000 in
theorem pw_cod765 : pw_code 183 765 = some (.invokestatic 38) := by decide +kernel
set_option maxRecDepth 1000000 in
theorem pw_cod768 : pw_code 183 768 = some .return_ := by decide +kernel
theorem at_boot {L : Nat} {xs : Nat → Int32} {Q : Option fl_V → fl_M → Prop} (k : fl_Tq (pw_P L xs) 0 15 [some (.inr (.inr (.inr (.inl 0)))), some (.inr (.inr (.inl (0, 0)))), none, none] [.inr (.inr (.inl (76, 277)))] at_m0 Q) : am_To (pw_P L xs) 0 0 (lv_args 0 [.retAddr 0]) [] ([], 0) (fun v M => ∃ v' m', v = v'.map fl_c ∧ M = fl_H m' ∧ Q v' m') := by
  obtain ⟨H1, e1, l1, s1, c1⟩ := nw_ckr_ok nw_r1_ck
  obtain ⟨lv3, H3, e3, l3, s3, c3⟩ : ∃ (lv3 : am_L) (H3 : nw_H), nw_r3 = some (lv3, [.ref 281, .ref 280], H3) ∧ H3.1.length = 8 ∧ H3.2 = 77355 ∧ nw_ckl 277 (fun r => at_i0 (277 + r)) 0 H3.1 = true := by
    have h := nw_r3_ck
    split at h
    · rename_i lv' st' H e
      simp only [Bool.and_eq_true, decide_eq_true_eq] at h
      obtain ⟨h2, h3, h4, h5⟩ := h
      subst h2
      exact ⟨lv', H, e, Nat.eq_of_beq_eq_true h3, Nat.eq_of_beq_eq_true h4, h5⟩
    · cases h
  have hB : (nw_h ([], 0) H1).1.length = 277 := by unfold nw_h; simp [l1]
  have h0 : ∀ B : am_M, nw_h B ([], 0) = B := fun B => by unfold nw_h; simp
  have hm1 := at_made0 l1 s1 c1 l3 s3 c3
  generalize hBg : nw_h ([], 0) H1 = B at hB hm1
  have k1 := nw_to_ok (B := ([], 0)) (L := L) (xs := xs) (Q := fun v M => ∃ v' m', v = v'.map fl_c ∧ M = fl_H m' ∧ Q v' m') 5000 0 (lv_args 0 [.retAddr 0]) [] ([], 0) _ _ H1 e1
  rw [hBg, h0] at k1
  refine k1 ?_
  have e2 := nw_r2_ck
  unfold nw_r2 at e2
  rw [← hB] at e2
  have k2 := nw_to_ok (B := B) (L := L) (xs := xs) (Q := fun v M => ∃ v' m', v = v'.map fl_c ∧ M = fl_H m' ∧ Q v' m') 5000 8 [(1, .ref 0), (0, .retAddr 0)] [] ([], 0) _ _ _ e2
  rw [h0] at k2
  refine k2 ?_
  refine am_To.cal (ins := .invokespecial 12) (mj := 183) (n := 1) rfl rfl rfl ?_
  unfold nw_r3 at e3
  rw [← hB] at e3
  refine nw_to_ok (B := B) (L := L) (xs := xs) 5000 0 _ [] ([nw_obj1], 10) _ _ H3 (by rw [hB] at e3 ⊢; exact e3) ?_
  rw [hm1]
  refine am_To.cal (ins := .invokestatic 38) (mj := 184) (n := 2) (pw_cod pw_cod765) rfl rfl ?_
  have k80 : fk_K 281 = 80 := by decide +kernel
  have hc := at_copy (L := L) (xs := xs) (m := at_m1) (p := 280) (q := 281) (tp := 79) (tq := 80) (Q := fun v m' => v = none ∧ m' = at_m0) fk_K_280 k80 (by decide) (by decide) rfl rfl (by decide) ⟨rfl, rfl⟩
  have hc2 := hc (lv_args 0 [.ref 280, .ref 281]) (fl_args_LR _ [.inr (.inr (.inl (79, 280))), .inr (.inr (.inl (80, 281)))])
  refine am_To.mono hc2 ?_
  rintro v M ⟨v', m', rfl, rfl, rfl, rfl⟩
  refine am_To.ret (ins := .return_) (v := none) (pw_cod pw_cod768) rfl rfl ?_
  rw [hB]
  refine k [(1, .ref 0), (0, .retAddr 0)] (fun i v hv => ?_)
  match i, hv with
  | 0, hv => cases hv; rfl
  | 1, hv => cases hv; rfl
  | 2, hv => cases hv
  | 3, hv => cases hv
  | n + 4, hv => simp at hv
/-! ===== all is good at the start ===== -/
theorem at_i0_rg : (List.range 285).all (fun p => (at_rg (fk_K p)).all (at_rok (fun i => ((at_i0 p).getD i 0).toInt))) = true := by decide +kernel
theorem at_0_rg : (at_rg at_TA).all (fun r => decide (r.2.2.2.2.2.1 ≤ 0 ∧ 0 ≤ r.2.2.2.2.2.2)) = true := by decide +kernel
theorem at_i0_ln : (at_i0 280).length ≤ 1420 := by decide +kernel
theorem at_AK0 : at_AK (fun _ => 0) := by
  refine ⟨fun r hr j _ _ => ?_, fun c _ hl => ?_, fun k _ => Int.le_refl _⟩
  · exact of_decide_eq_true (List.all_eq_true.mp at_0_rg r hr)
  · exfalso
    have hl : (c : Int) < 0 := hl
    omega
theorem at_start : at_Good at_XI at_m0 := by
  have ne : ∀ p j : Nat, p ≠ 281 → at_m0.1 p j = at_m1.1 p j := fun p j e => bl_cp_out (fun h => absurd h e)
  have hw : ∀ q j : Nat, q < 285 → at_m1.1 q j = (at_i0 q).getD j 0 := fun q j hq => by
    show (if q < 285 then (at_i0 q).getD j 0 else at_W0 ((q - 285) % 90) j) = _
    rw [if_pos hq]
  have h280 : ∀ j : Nat, at_m0.1 280 j = (at_i0 280).getD j 0 := fun j => by rw [ne 280 j (by decide), hw 280 j (by decide)]
  have h281 : ∀ j : Nat, j < 29780 → at_m0.1 281 j = (at_i0 280).getD j 0 := fun j hj => by
    show (bl_cp 280 0 281 0 29780 at_m1).1 281 j = _
    rw [bl_cp_in (by omega) (by omega)]
    show at_m1.1 280 j = _
    rw [hw 280 j (by decide)]
  have hz : ∀ j : Nat, 1420 ≤ j → (at_i0 280).getD j 0 = 0 := fun j hj => by
    have := at_i0_ln
    rw [List.getD_eq_getElem?_getD, List.getElem?_eq_none (by omega)]
    rfl
  have hg : at_Good (fun _ => True) at_m0 := by
    refine ⟨fun p hp r hr j hm => ?_, ⟨fun c hc hl => ?_, fun k hk => ?_⟩, True.intro⟩
    · have hp : p < 285 := by
        have hp : p < fl_N 0 := hp
        unfold fl_N at hp
        omega
      by_cases e : p = 281
      · subst e
        have : at_rg (fk_K 281) = [] := by decide +kernel
        rw [this] at hr
        cases hr
      · rw [ne p j e, hw p j hp]
        have b1 := List.all_eq_true.mp at_i0_rg p (List.mem_range.mpr hp)
        have b2 := List.all_eq_true.mp b1 r hr
        exact at_rok_ok b2 hm
    · exfalso
      have hl : (c : Int) < (at_m0.1 280 2).toInt := hl
      rw [h280 2] at hl
      have : ((at_i0 280).getD 2 0).toInt = 0 := by decide +kernel
      omega
    · show (at_m0.1 280 (341 + 35 * k)).toInt ≤ (at_m0.1 280 2).toInt
      rw [h280, h280]
      have : ∀ k : Fin 3, ((at_i0 280).getD (341 + 35 * k.val) 0).toInt ≤ ((at_i0 280).getD 2 0).toInt := by decide +kernel
      exact this ⟨k, hk⟩
  have hA := hg.AK
  have hX : at_XI at_m0 := by
    refine ⟨fun q hq i hi => ?_, ?_, fun p hp i => ?_, ?_, fun s hs => ?_, ⟨?_, ?_, ?_⟩, fun s hs => ?_, fun p j hp => ?_⟩
    · left
      rw [ne q i (by omega), hw q i (by omega)]
      rcases hq with rfl | rfl <;> rfl
    · have c0 : ∀ q, q = 272 ∨ q = 274 → at_cnt at_m0 q = 0 := by
        intro q hq
        unfold at_cnt at_nzr
        have : ∀ i, at_m0.1 q i = 0 := fun i => by
          rw [ne q i (by omega), hw q i (by omega)]
          rcases hq with rfl | rfl <;> rfl
        simp only [this]
        decide +kernel
      rw [c0 272 (Or.inl rfl), c0 274 (Or.inr rfl)]
      rfl
    · have hp : fl_N 0 ≤ p := hp
      unfold fl_N at hp
      rw [ne p i (by omega)]
      show (if p < 285 then (at_i0 p).getD i 0 else at_W0 ((p - 285) % 90) i) = _
      rw [if_neg (by omega)]
    · refine at_AK0.congr (fun j _ _ => ?_)
      rw [ne 283 _ (by decide), hw 283 _ (by decide)]
      rfl
    · refine at_AK0.congr (fun j _ _ => ?_)
      rw [h280, hz _ (by omega)]
      rfl
    · refine hA.congr (fun j _ _ => ?_)
      rw [h281 j (by omega), ← h280 j]
      rfl
    · rw [h281 0 (by decide)]
      decide +kernel
    · rw [h281 1 (by decide)]
      decide +kernel
    · refine at_AK0.congr (fun j _ _ => ?_)
      rw [h281 _ (by omega), hz _ (by omega)]
      rfl
    · rw [ne p j (by omega), hw p j (by omega)]
  exact ⟨hg.1, hg.2.1, hX⟩
