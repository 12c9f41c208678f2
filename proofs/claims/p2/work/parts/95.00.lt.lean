/-! ===== the law: calls with the whole relation ===== -/
section T2LT
variable {L : Nat} {xs : Nat → Int32} {m : fl_M} {f : t2_F} {l : t2_L} {Q : Option fl_V → fl_M → Prop}
theorem lx_callG {pc mj n : Nat} {ins : Instr} {lv : fl_L} {st as_ rest : List fl_V} {R : Option fl_V → fl_M → Prop} (hc : am_code (pw_P L xs) 0 pc = some ins) (hcl : am_cl (pw_P L xs) 0 ins = some (mj, n)) (hrc : fl_rc (pw_P L xs) ins mj n st = true) (hok : ∀ v ∈ st, fl_ok m.2.2 v) (hst : (st.take n).reverse = as_) (hd : st.drop n = rest) (T : fl_Tq (pw_P L xs) mj 0 (fl_args (am_mxl (pw_P L xs) mj) as_) [] m R) (k : ∀ (v : Option fl_V) (m' : fl_M), R v m' → fl_Tq (pw_P L xs) 0 (pc + 3) lv (v.toList ++ rest) m' Q) : fl_Tq (pw_P L xs) 0 pc lv st m Q := by
  refine fl_Tq.cal hc hcl hok hrc ?_
  rw [hst, hd]
  exact fl_Tq.mono T (fun v m' h => k v m' h)
/-- a call that writes nothing of the relation -/
def t2_ZI (v : Option fl_V) (m : fl_M) : Prop := (∃ y, v = some (.inl y)) ∧ t2_Z m
def t2_ZJ (v : Option fl_V) (m : fl_M) : Prop := (∃ y, v = some (.inr (.inl y))) ∧ t2_Z m
theorem t2_qcall {c : at_C} {as_ : List fl_V} {mj : Nat} {lo hi : Int} (hV : at_Valid at_XI (pw_P L xs) c) (e : c.1 = mj) (Z : t2_Z m) (hk : at_agk m.2.2 c.2.1 as_) (hl : c.2.2.1 = []) (hr : c.2.2.2.1 = some (.inr (false, lo, hi))) (hq : t2_quiet c.2.2.2.2.2 = true) : fl_Tq (pw_P L xs) mj 0 (fl_args (am_mxl (pw_P L xs) mj) as_) [] m t2_ZI := by
  subst e
  refine fl_Tq.mono (hV m as_ Z.1 hk (fun q hq => by rw [hl] at hq; cases hq)) (fun v m' ⟨hg', md, hv⟩ => ?_)
  rw [hr] at hv
  obtain ⟨x, rfl, -⟩ := hv
  exact ⟨⟨x, rfl⟩, Z.quiet hg' md hq⟩
theorem t2_qcallJ {c : at_C} {as_ : List fl_V} {mj : Nat} {lo hi : Int} (hV : at_Valid at_XI (pw_P L xs) c) (e : c.1 = mj) (Z : t2_Z m) (hk : at_agk m.2.2 c.2.1 as_) (hl : c.2.2.1 = []) (hr : c.2.2.2.1 = some (.inr (true, lo, hi))) (hq : t2_quiet c.2.2.2.2.2 = true) : fl_Tq (pw_P L xs) mj 0 (fl_args (am_mxl (pw_P L xs) mj) as_) [] m t2_ZJ := by
  subst e
  refine fl_Tq.mono (hV m as_ Z.1 hk (fun q hq => by rw [hl] at hq; cases hq)) (fun v m' ⟨hg', md, hv⟩ => ?_)
  rw [hr] at hv
  obtain ⟨x, rfl, -⟩ := hv
  exact ⟨⟨x, rfl⟩, Z.quiet hg' md hq⟩
theorem t2_acall {c : at_C} {as_ : List fl_V} {mj : Nat} {lo hi : Int} (hV : at_Valid at_XI (pw_P L xs) c) (e : c.1 = mj) (Z : t2_Z m) (hk : at_agk m.2.2 c.2.1 as_) (hl : c.2.2.1 = []) (hr : c.2.2.2.1 = some (.inr (false, lo, hi))) (hq : t2_loud c.2.2.2.2.2 = true) (F : fl_Tq (pw_P L xs) mj 0 (fl_args (am_mxl (pw_P L xs) mj) as_) [] m (t2_RP m)) : fl_Tq (pw_P L xs) mj 0 (fl_args (am_mxl (pw_P L xs) mj) as_) [] m t2_ZI :=
  t2_aside hV e Z hk hl hr hq F (fun x m1 h => ⟨⟨x, rfl⟩, h⟩)
theorem t2_acallR {c : at_C} {as_ : List fl_V} {mj : Nat} {lo hi : Int} (hV : at_Valid at_XI (pw_P L xs) c) (e : c.1 = mj) (Z : t2_Z m) (hk : at_agk m.2.2 c.2.1 as_) (hl : c.2.2.1 = []) (hr : c.2.2.2.1 = some (.inr (false, lo, hi))) (hq : t2_loud c.2.2.2.2.2 = true) (hp : t2_nw c.2.2.2.2.2 76 7 7 = true) (F : fl_Tq (pw_P L xs) mj 0 (fl_args (am_mxl (pw_P L xs) mj) as_) [] m (t2_Rst m)) : fl_Tq (pw_P L xs) mj 0 (fl_args (am_mxl (pw_P L xs) mj) as_) [] m t2_ZI :=
  t2_asideR hV e Z hk hl hr hq hp F (fun x m1 h => ⟨⟨x, rfl⟩, h⟩)
/-- two answers that are the same, of calls that change nothing -/
theorem t2_qq {mc mr : Nat} {ac ar : List fl_V} {y : Int32} (Z : t2_Z (f, l)) (F1 : ∀ Q : Option fl_V → fl_M → Prop, Q (some (.inl y)) (f, l) → fl_Tq (pw_P L xs) mc 0 (fl_args (am_mxl (pw_P L xs) mc) ac) [] (f, l) Q) (F2 : ∀ Q : Option fl_V → fl_M → Prop, Q (some (.inl y)) (f, l) → fl_Tq (pw_P L xs) mr 0 (fl_args (am_mxl (pw_P L xs) mr) ar) [] (f, l) Q) : fl_Tq (pw_P L xs) mc 0 (fl_args (am_mxl (pw_P L xs) mc) ac) [] (f, l) (t2_End L xs mr ar) :=
  F1 _ ⟨⟨y, rfl⟩, F2 _ ⟨rfl, Z⟩⟩
def t2_b01 (x : Int32) : Int32 := if x.toInt = 0 then (0 : Int32) else (1 : Int32)
theorem t2_b01_k (x : Int32) : ∃ y : Int32, (.inl (t2_b01 x) : fl_V) = .inl y ∧ 0 ≤ y.toInt ∧ y.toInt ≤ 1 := ⟨_, rfl, by unfold t2_b01; split <;> decide, by unfold t2_b01; split <;> decide⟩
theorem lx_boolV {pc : Nat} {lv : fl_L} {st : List fl_V} {x : Int32} (h1 : am_code (pw_P L xs) 0 pc = some (.ifCond .eq 7)) (h2 : am_code (pw_P L xs) 0 (pc + 3) = some (.iconst 1)) (h3 : am_code (pw_P L xs) 0 (pc + 4) = some (.goto 4)) (h4 : am_code (pw_P L xs) 0 (pc + 7) = some (.iconst 0)) (hok : ∀ v ∈ (.inl x :: st : List fl_V), fl_ok m.2.2 v) (ht : am_tg pc 7 = some (pc + 7)) (ht2 : am_tg (pc + 4) 4 = some (pc + 8)) (k : fl_Tq (pw_P L xs) 0 (pc + 8) lv (.inl (t2_b01 x) :: st) m Q) : fl_Tq (pw_P L xs) 0 pc lv (.inl x :: st) m Q := by
  have ok : ∀ v ∈ st, fl_ok m.2.2 v := fun v hv => hok v (List.mem_cons_of_mem _ hv)
  have ok1 : ∀ y : Int32, ∀ v ∈ (.inl y :: st : List fl_V), fl_ok m.2.2 v := fun y v hv => by
    rcases List.mem_cons.mp hv with rfl | hv
    · exact True.intro
    · exact ok v hv
  by_cases hx : x.toInt = 0
  · have hb : am_c1 .eq x = true := by rw [at_c1, hx]; rfl
    refine fl_Tq.zt h1 hok hb ht ?_
    refine fl_Tq.stp h4 rfl ok rfl ?_
    have e : t2_b01 x = Int32.ofInt 0 := by unfold t2_b01; rw [if_pos hx]; rfl
    rw [e] at k
    exact k
  · have hb : am_c1 .eq x = false := by rw [at_c1]; exact decide_eq_false hx
    refine fl_Tq.zf h1 hok hb ht ?_
    refine fl_Tq.stp h2 rfl ok rfl ?_
    have e : t2_b01 x = Int32.ofInt 1 := by unfold t2_b01; rw [if_neg hx]; rfl
    rw [e] at k
    refine fl_Tq.stp (pc' := pc + 8) (lv' := lv) (st' := .inl (Int32.ofInt 1) :: st) (m' := m) h3 rfl (ok1 _) ?_ k
    show fl_go (pc + 3 + 1) 4 lv _ m = _
    unfold fl_go
    rw [show pc + 3 + 1 = pc + 4 by omega, ht2]
end T2LT
/-! ===== the relation at the start ===== -/
section T2START
def t2_i0 : t2_F := fun p j => (at_i0 p).getD j 0
theorem t2_m0_w {p : Nat} (hp : p < 285) (h : p ≠ 281) : at_m0.1 p = t2_i0 p := by
  funext j
  show (bl_cp 280 0 281 0 29780 at_m1).1 p j = _
  rw [bl_cp_out (fun e => absurd e h)]
  show (if p < 285 then (at_i0 p).getD j 0 else at_W0 ((p - 285) % 90) j) = _
  rw [if_pos hp]
  rfl
theorem t2_m0_281 {j : Nat} (hj : j < 29780) : at_m0.1 281 j = t2_i0 280 j := by
  show (bl_cp 280 0 281 0 29780 at_m1).1 281 j = _
  rw [bl_cp_in (by omega) (by omega)]
  show (if 280 < 285 then (at_i0 280).getD (j - 0 + 0) 0 else at_W0 ((280 - 285) % 90) j) = _
  rw [if_pos (by decide)]
  rfl
theorem t2_i0_I : c0_I t2_i0 t2_i0 := by
  have z2 : (t2_i0 280 2).toInt = 0 := by decide +kernel
  have z18 : (t2_i0 280 18).toInt = 0 := by decide +kernel
  have z19 : (t2_i0 280 19).toInt = 0 := by decide +kernel
  have z20 : (t2_i0 280 20).toInt = 0 := by decide +kernel
  have z21 : (t2_i0 280 21).toInt = 0 := by decide +kernel
  refine ⟨⟨⟨by decide +kernel, by decide +kernel, by decide +kernel, by decide +kernel⟩, ⟨by decide +kernel, by decide +kernel, by decide +kernel, by decide +kernel⟩, by decide +kernel, by decide +kernel, by decide +kernel, by decide +kernel⟩, ?_, ⟨⟨?_, ⟨by decide +kernel, ?_, ?_⟩, ⟨by decide +kernel, by decide +kernel, fun j hj => by omega⟩, ?_, by decide +kernel, fun j hj => by omega⟩, ⟨⟨by decide +kernel, by decide +kernel, by decide +kernel, by decide +kernel⟩, ?_, ?_, ⟨by decide +kernel, by decide +kernel, by decide +kernel, by decide +kernel, fun i hi => by omega⟩⟩, ⟨by decide +kernel, by decide +kernel, by decide +kernel, by decide +kernel, fun i hi => by omega⟩, ?_⟩, fun C hC => by omega, ?_, ?_, ?_, ⟨by decide +kernel, ?_⟩, ⟨by decide +kernel, ?_, fun k hk => by omega⟩, ⟨by decide +kernel, fun k hk => by omega⟩, by decide +kernel, fun C hC => by omega⟩
  · show ∀ k : Nat, k < 30 → t2_i0 4 k = t2_i0 280 (34 + k)
    decide +kernel
  · show ∀ k : Nat, k < 3 → t2_i0 5 k = t2_i0 280 (64 + k)
    decide +kernel
  · show ∀ k : Nat, k < 12 → t2_i0 7 k = t2_i0 280 (67 + k)
    decide +kernel
  · show ∀ k : Nat, k < 6 → 0 ≤ (t2_i0 280 (67 + 2 * k + 1)).toInt
    decide +kernel
  · show ∀ k : Nat, k < 24 → t2_i0 6 k = t2_i0 280 (315 + k)
    decide +kernel
  · show ∀ j : Nat, j < 11 → t2_i0 11 j = t2_i0 280 (23 + j)
    decide +kernel
  · show ∀ j : Nat, j < 4 → t2_i0 12 j = t2_i0 280 (311 + j)
    decide +kernel
  · intro m hm
    have h : ∀ m : Nat, m < 3 → t2_i0 (82 + 3 * m) 2 = t2_i0 280 (339 + 35 * m + 2) ∧ (t2_i0 280 (339 + 35 * m + 2)).toInt = 0 := by decide +kernel
    obtain ⟨h1, h2⟩ := h m hm
    exact ⟨h1, by omega, fun q => by omega, fun c hc => by omega⟩
  · show ∀ k : Nat, k < 30 → t2_lo k ≤ (t2_i0 280 (34 + k)).toInt ∧ (t2_i0 280 (34 + k)).toInt ≤ t2_hi k
    decide +kernel
  · decide +kernel
  · have h : ∀ k : Nat, k < 3 → t2_i0 280 (64 + k) = 0 := by decide +kernel
    exact fun k hk => Or.inl (h k hk)
  · show ∀ k : Nat, k < 6 → 0 ≤ (t2_i0 280 (67 + 2 * k + 1)).toInt
    decide +kernel
  · show ∀ k : Nat, k < 8 → 0 ≤ (t2_i0 280 ((79 + (5 * k)) + 3)).toInt ∧ (t2_i0 280 ((79 + (5 * k)) + 3)).toInt ≤ 29
    decide +kernel
theorem t2_i0_blk : ∀ o : Nat, o < 90 → at_i0 (91 + o) = at_i0 (1 + o) := by decide +kernel
theorem t2_Z0 : t2_Z at_m0 := by
  have I : c0_I at_m0.1 at_m0.1 := t2_i0_I.ext (fun p _ h => t2_m0_w (by omega) (by omega)) (fun w _ _ => by rw [t2_m0_w (by decide) (by decide)])
  have c0 : (0 : Int32).toInt = 0 := rfl
  have w0 : at_m0.1 280 0 = 0 := by rw [t2_m0_w (by decide) (by decide)]; decide +kernel
  have w1 : at_m0.1 280 1 = 0 := by rw [t2_m0_w (by decide) (by decide)]; decide +kernel
  have v0 : at_m0.1 281 0 = 0 := by rw [t2_m0_281 (by decide)]; decide +kernel
  have v1 : at_m0.1 281 1 = 0 := by rw [t2_m0_281 (by decide)]; decide +kernel
  have h1 : at_m0.1 271 1 = 0 ∧ at_m0.1 271 2 = 0 ∧ at_m0.1 273 1 = 0 ∧ at_m0.1 273 2 = 0 := by
    rw [t2_m0_w (by decide) (by decide), t2_m0_w (by decide) (by decide)]
    decide +kernel
  have hz : ∀ q i : Nat, (q = 272 ∨ q = 274) → i < 20 → at_m0.1 q i = 0 := fun q i hq hi => by
    rw [t2_m0_w (by omega) (by omega)]
    rcases hq with rfl | rfl
    · exact (by decide +kernel : ∀ i : Nat, i < 20 → t2_i0 272 i = 0) i hi
    · exact (by decide +kernel : ∀ i : Nat, i < 20 → t2_i0 274 i = 0) i hi
  refine ⟨at_start, I, ⟨⟨by rw [h1.2.1, w0], by rw [h1.1, c0]; omega, by rw [w0, c0]; omega, by rw [w1, c0]; omega, fun i hi => by rw [w0, c0] at hi; omega⟩, ?_, ⟨by rw [h1.2.2.2, v0], by rw [h1.2.2.1, c0]; omega, by rw [v0, c0]; omega, by rw [v1, c0]; omega, fun i hi => by rw [v0, c0] at hi; omega⟩⟩, fun q q' i i' hq hq' hi hi' h2 _ => absurd (hz q i hq hi) h2, ?_⟩
  · refine c0_I.ext t2_i0_I (fun p h1 h2 => ?_) (fun w h1 h2 => ?_)
    · show at_m0.1 (91 + p - 1) = t2_i0 p
      rw [t2_m0_w (by omega) (by omega)]
      have := t2_i0_blk (p - 1) (by omega)
      rw [show 91 + (p - 1) = 91 + p - 1 by omega, show 1 + (p - 1) = p by omega] at this
      unfold t2_i0
      rw [this]
    · show at_m0.1 281 (0 + w) = t2_i0 280 w
      rw [Nat.zero_add]
      exact t2_m0_281 (by omega)
  · rw [t2_m0_w (by decide) (by decide)]
    decide +kernel
end T2START
