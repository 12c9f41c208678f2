/-! ===== the looker's step is a step ===== -/
def at_G (X : fl_M → Prop) (m0 m : fl_M) (ν : Nat → Int) (S : at_S) (lv : at_L) (st : List at_V) (fl : fl_L) (fs : List fl_V) : Prop := at_GS X m0 m ν S ∧ at_LR ν m.2.2 lv fl ∧ (∀ a, some a ∈ lv → at_wV S.1.1.length a) ∧ at_RS ν m.2.2 st fs ∧ ∀ a ∈ st, at_wV S.1.1.length a
def at_cl (mi : Nat) (ins : Instr) : Option (Nat × Nat) := match ins with
  | .invokestatic i => match pw_cal mi i with
    | some (0, r) => some r
    | _ => none
  | .invokevirtual i => match pw_cal mi i with
    | some (1, r) => some r
    | _ => none
  | .invokespecial i => match pw_cal mi i with
    | some (2, r) => some r
    | _ => none
  | _ => none
section ATW
variable {X : fl_M → Prop} {m0 m : fl_M} {ν ν' : Nat → Int} {S : at_S} {lv : at_L} {st r : List at_V} {fl : fl_L} {fs : List fl_V} {L : Nat} {xs : Nat → Int32} {mi pc : Nat}
theorem at_cl_eq (ins : Instr) : am_cl (pw_P L xs) mi ins = at_cl mi ins := rfl
/-- the state on which the looker goes on -/
def at_Nx (X : fl_M → Prop) (m0 : fl_M) (ν : Nat → Int) (n : Nat) (alts : List at_N) (c : fl_C) : Prop := ∃ a ∈ alts, ∃ ν', a.1 = c.1 ∧ at_ag n ν ν' ∧ n ≤ a.2.1.1.1.length ∧ at_G X m0 c.2.2.2 ν' a.2.1 a.2.2.1 a.2.2.2 c.2.1 c.2.2.1
theorem at_Nx.one {n : Nat} {a : at_N} {c : fl_C} (h1 : a.1 = c.1) (h2 : at_ag n ν ν') (h3 : n ≤ a.2.1.1.1.length) (h4 : at_G X m0 c.2.2.2 ν' a.2.1 a.2.2.1 a.2.2.2 c.2.1 c.2.2.1) : at_Nx X m0 ν n [a] c := ⟨a, List.mem_cons_self, ν', h1, h2, h3, h4⟩
/-- more is known, the rest is as it was -/
theorem at_G.ext {P' : at_P} (h : at_G X m0 m ν S lv st fl fs) (hx : at_X ν S.1 ν' P') : at_G X m0 m ν' (P', S.2) lv st fl fs :=
  ⟨h.1.ext hx, h.2.1.ag h.2.2.1 hx.1 (Nat.le_refl _), fun a ha => (h.2.2.1 a ha).mono hx.2.1, h.2.2.2.1.ag h.2.2.2.2 hx.1 (Nat.le_refl _), fun a ha => (h.2.2.2.2 a ha).mono hx.2.1⟩
theorem at_G.mem {S' : at_S} {m' : fl_M} (h : at_G X m0 m ν S lv st fl fs) (hag : at_ag S.1.1.length ν ν') (hle : S.1.1.length ≤ S'.1.1.length) (hh : m.2.2 ≤ m'.2.2) (hg : at_GS X m0 m' ν' S') : at_G X m0 m' ν' S' lv st fl fs :=
  ⟨hg, h.2.1.ag h.2.2.1 hag hh, fun a ha => (h.2.2.1 a ha).mono hle, h.2.2.2.1.ag h.2.2.2.2 hag hh, fun a ha => (h.2.2.2.2 a ha).mono hle⟩
theorem at_G.pop {a : at_V} (h : at_G X m0 m ν S lv (a :: r) fl fs) : ∃ v s, fs = v :: s ∧ at_RV ν m.2.2 a v ∧ at_wV S.1.1.length a ∧ at_G X m0 m ν S lv r fl s := by
  obtain ⟨v, s, rfl, h1, h2⟩ := h.2.2.2.1.cons
  exact ⟨v, s, rfl, h1, h.2.2.2.2 a List.mem_cons_self, h.1, h.2.1, h.2.2.1, h2, fun b hb => h.2.2.2.2 b (List.mem_cons_of_mem _ hb)⟩
theorem at_G.push {a : at_V} {v : fl_V} (h : at_G X m0 m ν S lv r fl fs) (hv : at_RV ν m.2.2 a v) (hw : at_wV S.1.1.length a) : at_G X m0 m ν S lv (a :: r) fl (v :: fs) :=
  ⟨h.1, h.2.1, h.2.2.1, ⟨hv, h.2.2.2.1⟩, fun b hb => by
    rcases List.mem_cons.mp hb with rfl | hb
    · exact hw
    · exact h.2.2.2.2 b hb⟩
theorem at_G.set {a : at_V} {v : fl_V} {i : Nat} (h : at_G X m0 m ν S lv r fl fs) (hv : at_RV ν m.2.2 a v) (hw : at_wV S.1.1.length a) : at_G X m0 m ν S (at_s lv i a) r (fl_s fl i v) fs :=
  ⟨h.1, h.2.1.s hv, fun b hb => by
    rcases at_s_mem hb with rfl | hb
    · exact hw
    · exact h.2.2.1 b hb, h.2.2.2.1, h.2.2.2.2⟩
/-- an int is pushed -/
theorem at_i_ok {pc' : Nat} {q : at_P × at_A} {x : Int32} {alts : List at_N} (h : at_G X m0 m ν S lv r fl fs) (hs : at_Sp ν S.1 q x.toInt) (e : at_i pc' S lv r q = some alts) : at_Nx X m0 ν S.1.1.length alts (pc', fl, .inl x :: fs, m) := by
  obtain ⟨ν', hx, hw, hv⟩ := hs
  cases e
  exact at_Nx.one (by rfl) hx.1 hx.2.1 ((h.ext hx).push ⟨x, rfl, hv.symm⟩ hw)
theorem at_j_ok {pc' : Nat} {q : at_P × at_A} {x : Int64} {alts : List at_N} (h : at_G X m0 m ν S lv r fl fs) (hs : at_Sp ν S.1 q x.toInt) (e : at_j pc' S lv r q = some alts) : at_Nx X m0 ν S.1.1.length alts (pc', fl, .inr (.inl x) :: fs, m) := by
  obtain ⟨ν', hx, hw, hv⟩ := hs
  cases e
  exact at_Nx.one (by rfl) hx.1 hx.2.1 ((h.ext hx).push ⟨x, rfl, hv.symm⟩ hw)
theorem at_Sp.c {P : at_P} (hP : at_KP ν P) (k : Int) : at_Sp ν P (P, at_c k) k := ⟨ν, at_X.rfl hP, at_wf_c, at_ev_c _ _⟩
theorem at_i64 (x : Int64) : at_m8 ≤ x.toInt ∧ x.toInt ≤ at_x8 := by
  have h1 := Int64.le_toInt x
  have h2 := Int64.toInt_lt x
  unfold at_m8 at_x8
  omega
theorem at_i32' (x : Int32) : at_m4 ≤ x.toInt ∧ x.toInt ≤ at_x4 := at_i32 x
theorem at_lw_ok {w : Nat} {i : Nat} {a : at_V} {h : Nat} (hl : at_LR ν h lv fl) (e : at_lw w lv[i]? = some a) : ∃ v, fl_ld w fl[i]? = some v ∧ at_RV ν h a v ∧ some a ∈ lv := by
  unfold at_lw at e
  split at e
  · rename_i e2
    cases e
    obtain ⟨v, e1, e3⟩ := hl.2 i _ e2
    obtain ⟨x, rfl, -⟩ := id e3
    exact ⟨_, by rw [e1]; rfl, e3, List.mem_of_getElem? e2⟩
  · rename_i e2
    cases e
    obtain ⟨v, e1, e3⟩ := hl.2 i _ e2
    obtain ⟨x, rfl, -⟩ := id e3
    exact ⟨_, by rw [e1]; rfl, e3, List.mem_of_getElem? e2⟩
  · rename_i e2
    cases e
    obtain ⟨v, e1, e3⟩ := hl.2 i _ e2
    obtain ⟨x, rfl, -⟩ := id e3
    exact ⟨_, by rw [e1]; rfl, e3, List.mem_of_getElem? e2⟩
  · rename_i e2
    cases e
    obtain ⟨v, e1, e3⟩ := hl.2 i _ e2
    cases id e3
    exact ⟨_, by rw [e1]; rfl, e3, List.mem_of_getElem? e2⟩
  · cases e
theorem at_pu_ok {w n i : Nat} {alts : List at_N} (h : at_G X m0 m ν S lv st fl fs) (e : at_pu n pc S lv st (at_lw w lv[i]?) = some alts) : ∃ c, fl_pu n pc fl fs m (fl_ld w fl[i]?) = some c ∧ at_Nx X m0 ν S.1.1.length alts c := by
  unfold at_pu at e
  split at e
  · rename_i a ea
    cases e
    obtain ⟨v, e1, e2, e3⟩ := at_lw_ok h.2.1 ea
    rw [e1]
    exact ⟨_, rfl, at_Nx.one (by rfl) at_ag.rfl (Nat.le_refl _) (h.push e2 (h.2.2.1 a e3))⟩
  · cases e
theorem at_lw_v {w : Nat} {a b : at_V} {v : fl_V} {h : Nat} (e : at_lw w (some (some a)) = some b) (hv : at_RV ν h a v) : fl_ld w (some (some v)) = some v := by
  unfold at_lw at e
  split at e
  · rename_i e2
    cases e2
    obtain ⟨x, rfl, -⟩ := hv
    rfl
  · rename_i e2
    cases e2
    obtain ⟨x, rfl, -⟩ := hv
    rfl
  · rename_i e2
    cases e2
    obtain ⟨x, rfl, -⟩ := hv
    rfl
  · rename_i e2
    cases e2
    cases hv
    rfl
  · cases e
theorem at_so_ok {w n i nL : Nat} {alts : List at_N} (h : at_G X m0 m ν S lv st fl fs) (e : at_so w n pc i nL S lv st = some alts) : ∃ c, fl_so w n pc i nL fl fs m = some c ∧ at_Nx X m0 ν S.1.1.length alts c := by
  unfold at_so at e
  split at e
  · rename_i a r
    obtain ⟨v, s, rfl, hv, hw, hG⟩ := h.pop
    split at e
    · cases e
    · rename_i b eb
      obtain ⟨hb, e⟩ := am_bif e
      cases e
      have hb : (bif Nat.beq (at_cat a) 2 then i + 1 else i) < nL := by
        unfold Nat.blt at hb
        exact Nat.le_of_ble_eq_true hb
      have e1 := at_lw_v eb hv
      unfold fl_so
      dsimp only
      rw [e1]
      dsimp only
      rw [hv.cat]
      refine ⟨(pc + n, fl_s fl i v, s, m), ?_, at_Nx.one (by rfl) at_ag.rfl (Nat.le_refl _) (hG.set hv hw)⟩
      cases hc : Nat.beq (at_cat a) 2 with
      | true =>
        replace hb : i + 1 < nL := by rw [hc] at hb; exact hb
        rw [if_pos (Nat.eq_of_beq_eq_true hc), if_pos hb]
      | false =>
        replace hb : i < nL := by rw [hc] at hb; exact hb
        rw [if_neg (fun q => by rw [q] at hc; cases hc), if_pos hb]
  · cases e
/-- conditions -/
def at_cz (c : ClassFile.Cond) (z : Int) : Bool := match c with
  | .eq => decide (z = 0)
  | .ne => !decide (z = 0)
  | .lt => decide (z < 0)
  | .ge => decide (0 ≤ z)
  | .gt => decide (0 < z)
  | .le => decide (z ≤ 0)
theorem at_cz_ng (c : ClassFile.Cond) (z : Int) : at_cz (at_ng c) z = !at_cz c z := by
  cases c
  · show (!decide (z = 0)) = !decide (z = 0); rfl
  · show decide (z = 0) = !!decide (z = 0); rw [Bool.not_not]
  · show decide (0 ≤ z) = !decide (z < 0); by_cases h : z < 0 <;> simp [h] <;> omega
  · show decide (z < 0) = !decide (0 ≤ z); by_cases h : z < 0 <;> simp [h] <;> omega
  · show decide (z ≤ 0) = !decide (0 < z); by_cases h : 0 < z <;> simp [h] <;> omega
  · show decide (0 < z) = !decide (z ≤ 0); by_cases h : 0 < z <;> simp [h] <;> omega
theorem at_cd_ok {P : at_P} (hP : at_KP ν P) {d : at_A} (hd : at_wf P.1.length d) {c : ClassFile.Cond} (h : at_cz c (at_ev ν d) = true) : ∃ P', at_cd c P d = some P' ∧ at_X ν P ν P' := by
  have one : ∀ a : at_A, at_wf P.1.length a → at_ev ν a ≤ 0 → ∃ P', at_as P a = some P' ∧ at_X ν P ν P' := fun a ha h => by
    obtain ⟨P', e, hx, -⟩ := at_as_X hP ha h
    exact ⟨P', e, hx⟩
  cases c
  · have h := of_decide_eq_true h
    obtain ⟨P', e, hx, hl⟩ := at_as_X hP hd (by omega)
    obtain ⟨P'', e2, hx2, -⟩ := at_as_X hx.2.2 (a := at_mul (-1) d) (at_wf_mul (hd.mono (by omega))) (by rw [at_ev_mul]; omega)
    refine ⟨P'', ?_, hx.trans hx2⟩
    show (match at_as P d with | some P' => at_as P' (at_mul (-1) d) | none => none) = _
    rw [e]
    exact e2
  · have h : at_ev ν d ≠ 0 := by simpa [at_cz] using h
    have l := at_lo_le hP.1.1 d
    have u := at_hi_le hP.1.1 d
    unfold at_cd
    dsimp only
    cases h1 : decide (at_lo P.1 d = 0) with
    | true =>
      have h1 := of_decide_eq_true h1
      exact one _ (at_wf_sub at_wf_c hd) (by rw [at_ev_sub, at_ev_c]; omega)
    | false =>
      dsimp only [cond_false]
      cases h2 : decide (at_hi P.1 d = 0) with
      | true =>
        have h2 := of_decide_eq_true h2
        exact one _ (at_wf_add hd at_wf_c) (by rw [at_ev_add, at_ev_c]; omega)
      | false =>
        dsimp only [cond_false]
        cases h3 : decide (at_lo P.1 d < 0) && decide (0 < at_hi P.1 d) with
        | false => exact ⟨P, rfl, at_X.rfl hP⟩
        | true =>
          refine ⟨_, rfl, at_ag.rfl, Nat.le_refl _, ⟨hP.1.1, hP.1.2.1, ?_⟩, hP.2.1, ?_⟩
          · intro e he
            rcases List.mem_cons.mp he with rfl | he
            · exact h
            · exact hP.1.2.2 e he
          · intro e he
            rcases List.mem_cons.mp he with rfl | he
            · exact hd
            · exact hP.2.2 e he
  · have h := of_decide_eq_true h
    exact one _ (at_wf_add hd at_wf_c) (by rw [at_ev_add, at_ev_c]; omega)
  · have h := of_decide_eq_true h
    exact one _ (at_wf_mul hd) (by rw [at_ev_mul]; omega)
  · have h := of_decide_eq_true h
    exact one _ (at_wf_sub at_wf_c hd) (by rw [at_ev_sub, at_ev_c]; omega)
  · have h := of_decide_eq_true h
    exact one _ hd h
theorem at_br_ok {c : ClassFile.Cond} {d : at_A} {off : Int} {b : Bool} {alts : List at_N} (h : at_G X m0 m ν S lv r fl fs) (hd : at_wf S.1.1.length d) (hb : b = at_cz c (at_ev ν d)) (e : at_br c d pc off S lv r = some alts) : ∃ q, fl_br b pc off fl fs m = some q ∧ at_Nx X m0 ν S.1.1.length alts q := by
  unfold at_br at e
  unfold fl_br
  split at e
  · rename_i t et
    cases e
    rw [et]
    dsimp only
    cases hz : at_cz c (at_ev ν d) with
    | true =>
      obtain ⟨P', e1, hx⟩ := at_cd_ok h.1.1 hd hz
      rw [hb, hz]
      refine ⟨_, rfl, (t, (P', S.2), lv, r), ?_, ν, rfl, hx.1, hx.2.1, h.ext hx⟩
      rw [e1]
      exact List.mem_append_left _ List.mem_cons_self
    | false =>
      have hz' : at_cz (at_ng c) (at_ev ν d) = true := by rw [at_cz_ng, hz]; rfl
      obtain ⟨P', e1, hx⟩ := at_cd_ok h.1.1 hd hz'
      rw [hb, hz]
      refine ⟨_, rfl, (pc + 3, (P', S.2), lv, r), ?_, ν, rfl, hx.1, hx.2.1, h.ext hx⟩
      rw [e1]
      exact List.mem_append_right _ List.mem_cons_self
  · cases e
end ATW
