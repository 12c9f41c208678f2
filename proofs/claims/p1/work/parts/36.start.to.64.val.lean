/-! 36.start.lean.txt -/
section
/-! ===== THE CLAIM OUT OF THE PURE MACHINE'S RUN OF THE LAW ===== -/
theorem am_eqi {args : Array Value} {s : State} {T : Term} {z : Int32} (h : (Cond.eq T (.int z)).before args s = true) : T.eval args s none [] s = some (.int z) := by
  cases hv : T.eval args s none [] s with
  | none => simp [Cond.before, Cond.holds, Cond.value, hv] at h
  | some w =>
    have hz : (Term.int z).eval args s none [] s = some (.int z) := rfl
    simp only [Cond.before, Cond.holds, Cond.value, hv, hz] at h
    cases w <;> simp_all
/-- a table that nobody writes, at the start -/
theorem am_stat {args : Array Value} {s : State} {C n d : String} {N : Nat} {f : Nat → Int32} (hN : N < 2 ^ 31) (harr : (Cond.arrayOf (.static C n d) .int).before args s = true) (hlen : (Cond.eq (.length (.static C n d)) (.int (Int32.ofNat N))).before args s = true)
    (hel : ∀ j : Nat, j < N → (Cond.eq (.elem (.static C n d) (.int (Int32.ofNat j))) (.int (f j))).before args s = true) (hex : (Cond.exactly (.static C n d) "[I").before args s = true)
    (hl : (Cond.laysStatic C n d).before args s = true) (hini : (Cond.initialized C).before args s = true) :
    ∃ t : Nat, t < s.heap.size ∧ va_X t N f s s.heap ∧ (∃ cell : Cell, s.heap[t]? = some cell ∧ s.vm.findClass "[I" = some cell.cls) ∧ va_Z C n d (.ref t) (fun q => s.heap.size ≤ q) s s.heap := by
  have hv := am_eqi hlen
  obtain ⟨t, cell, ht, hat, hvv⟩ := Term.length_spec hv
  have hsz : cell.slots.size < 2 ^ 31 := by
    simp only [Term.eval, Option.bind_eq_bind] at hv
    have ht' := ht
    simp only [Term.eval, Option.bind_eq_bind] at ht'
    rw [ht'] at hv
    simp only [Option.bind_some, hat] at hv
    by_cases hlt : cell.slots.size < 2147483648
    · exact hlt
    · simp [hlt] at hv
  obtain ⟨hcell, hkn, -, -⟩ := State.arrayAt?_spec hat
  obtain ⟨hof, -⟩ := Cond.arrayOf_spec harr ht hcell
  have hN2 : cell.slots.size = N := by
    have e : Int32.ofNat cell.slots.size = Int32.ofNat N := (Value.int.inj hvv).symm
    have e1 := Int32.toInt_ofNat_small hsz
    have e2 := Int32.toInt_ofNat_small hN
    rw [e, e2] at e1
    omega
  refine ⟨t, (Array.getElem?_eq_some_iff.mp hcell).1, ⟨cell, hcell, hof, hkn, hN2, fun j hj => ?_⟩, ?_, va_Zof hl hini ht (fun a ha => Nat.not_le.mpr ha)⟩
  · obtain ⟨a, i, cell2, h1, h2, h3, h4, h5⟩ := Term.elem_spec (am_eqi (hel j hj))
    cases ht.symm.trans h1
    cases hat.symm.trans h3
    have hi : i = Int32.ofNat j := by
      have e : (Term.int (Int32.ofNat j)).eval args s none [] s = some (.int (Int32.ofNat j)) := rfl
      cases h2.symm.trans e
      rfl
    have hc : i.toNatClampNeg = j := by rw [hi]; exact Int32.toNatClampNeg_ofNat_of_lt (Nat.lt_trans hj hN)
    rw [hc] at h5
    exact h5
  · obtain ⟨a, c, cell2, k, h1, h2, h3, -, -, h6, -⟩ := Cond.exactly_spec hex
    cases ht.symm.trans h1
    cases hcell.symm.trans h3
    exact ⟨cell, hcell, by rw [h6]; exact h2⟩
def pw_okt (k : Nat) : Bool := match pw_S.getD k ("", "", "") with
  | (C, n, d) => decide (Cond.arrayOf (.static C n d) .int ∈ flatC (Jvm.Cond.and given_1 narrow_1)) && (decide (Cond.eq (.length (.static C n d)) (.int (Int32.ofNat (pw_tab_l.getD k []).length)) ∈ flatC (Jvm.Cond.and given_1 narrow_1)) && (decide (Cond.exactly (.static C n d) "[I" ∈ flatC (Jvm.Cond.and given_1 narrow_1)) && (decide (Cond.laysStatic C n d ∈ lw_tbl) && (decide (Cond.initialized C ∈ lw_tbl) &&
    (List.range (pw_tab_l.getD k []).length).all (fun j => decide (Cond.eq (.elem (.static C n d) (.int (Int32.ofNat j))) (.int (pw_tbl k j)) ∈ flatC (Jvm.Cond.and given_1 narrow_1)))))))
set_option maxRecDepth 100000 in
theorem pw_okt_all : (List.range pw_S.length).all pw_okt = true := by decide +kernel
set_option maxRecDepth 100000 in
theorem pw_okt_len : (List.range pw_S.length).all (fun k => decide ((pw_tab_l.getD k []).length < 2 ^ 31)) = true := by decide +kernel
theorem pw_stat {args : Array Value} {s : State} (hts : ∀ w ∈ lw_tbl, w.before args s = true) (hgv : (Jvm.Cond.and given_1 narrow_1).before args s = true) {k : Nat} (hk : k < pw_S.length) :
    ∃ t : Nat, t < s.heap.size ∧ va_X t (pw_tab_l.getD k []).length (pw_tbl k) s s.heap ∧ (∃ cell : Cell, s.heap[t]? = some cell ∧ s.vm.findClass "[I" = some cell.cls) ∧ va_Z (pw_S.getD k ("", "", "")).1 (pw_S.getD k ("", "", "")).2.1 (pw_S.getD k ("", "", "")).2.2 (.ref t) (fun q => s.heap.size ≤ q) s s.heap := by
  have h := List.all_eq_true.mp pw_okt_all k (List.mem_range.mpr hk)
  have hl := of_decide_eq_true (List.all_eq_true.mp pw_okt_len k (List.mem_range.mpr hk))
  unfold pw_okt at h
  generalize hq : pw_S.getD k ("", "", "") = q at h ⊢
  obtain ⟨C, n, d⟩ := q
  simp only [Bool.and_eq_true, decide_eq_true_eq] at h
  obtain ⟨h1, h2, h3, h4, h5, h6⟩ := h
  have fl := flat_of_before _ hgv
  exact am_stat hl (fl _ h1) (fl _ h2) (fun j hj => fl _ (of_decide_eq_true (List.all_eq_true.mp h6 j (List.mem_range.mpr hj)))) (fl _ h3) (hts _ h4) (hts _ h5)
def pw_cs (b : Nat) (t : Nat → Nat) (c : Nat) : Nat := match c with
  | 0 => b
  | k + 1 => t k
/-- the arrays' classes -/
theorem pw_arr {args : Array Value} {s : State} (hts : ∀ w ∈ pw_W, w.before args s = true) (htN : ∀ w ∈ pw_N, va_Nw w s) : ∃ AT : Nat → ClassId, ∀ (t : Nat) (ty : FieldType), pw_ty[t]? = some ty → ArrOfT s (AT t) ty ∧ va_RA s (AT t) ty := by
  have key : ∀ t : Nat, ∃ c : ClassId, ∀ ty : FieldType, pw_ty[t]? = some ty → ArrOfT s c ty ∧ va_RA s c ty := by
    intro t
    by_cases ht : t < pw_ty.length
    · by_cases h2 : 2 ≤ t
      · obtain ⟨h5, h6⟩ := pw_elt_ok h2 ht
        obtain ⟨-, g⟩ := pw_G8 0 (fun _ => 0)
        have hw : Cond.arrayOver (.object (pw_cn (pw_elt t))) ∈ pw_N := by
          have hc : t = 2 ∨ t = 3 ∨ t = 4 := by
            have : t < 5 := ht
            omega
          rcases hc with rfl | rfl | rfl <;> exact pw_n_ao (by decide +kernel)
        obtain ⟨comp, c, k, q1, q2, q3, q4, q5⟩ := Cond.arrayOver_spec (va_AO.use (A := args) (htN _ hw))
        refine ⟨c, fun ty hty => ?_⟩
        cases h6.symm.trans hty
        exact ⟨fun N z => ⟨(fun k h => by cases h), k, q3, comp, q4⟩, k, comp, q3, q4, q1, q5⟩
      · rcases (show t = 0 ∨ t = 1 by omega) with rfl | rfl
        · obtain ⟨c, k, comp, q1, q2, q3⟩ := Cond.arrayClass_spec (hts _ pw_G7.1)
          refine ⟨c, fun ty hty => ?_⟩
          cases (show pw_ty[0]? = some .int from rfl).symm.trans hty
          exact ⟨fun N z => ⟨(fun k h => by cases h), k, q2, comp, q3⟩, q1⟩
        · obtain ⟨c, k, comp, q1, q2, q3⟩ := Cond.arrayClass_spec (hts _ pw_G7.2.1)
          refine ⟨c, fun ty hty => ?_⟩
          cases (show pw_ty[1]? = some .long from rfl).symm.trans hty
          exact ⟨fun N z => ⟨(fun k h => by cases h), k, q2, comp, q3⟩, q1⟩
    · refine ⟨0, fun ty hty => ?_⟩
      rw [List.getElem?_eq_none (by omega)] at hty
      cases hty
  exact ⟨fun t => Classical.choose (key t), fun t => Classical.choose_spec (key t)⟩
theorem pw_known {args : Array Value} {s : State} (hts : ∀ w ∈ pw_W, w.before args s = true) : ∃ D : va_G, ∀ (c : Nat) (q : vw_C), pw_kl[c]? = some q → u_Kn s q.1 q.2.1 q.2.2 (D.1 c) (D.2 c) := by
  have key : ∀ c : Nat, ∃ d : ClassId × (Nat → Nat), ∀ q : vw_C, pw_kl[c]? = some q → u_Kn s q.1 q.2.1 q.2.2 d.1 d.2 := by
    intro c
    cases hq : pw_kl[c]? with
    | none => exact ⟨(0, fun _ => 0), fun q h => by cases h⟩
    | some r =>
      have hl := pw_kl_lt hq
      have hr : r = (pw_cn c, pw_T c, (pw_fld_d.getD c []).length) := Option.some.inj (hq.symm.trans (pw_kl_eq hl))
      obtain ⟨-, g2, -⟩ := pw_G2 0 (fun _ => 0) c r hq
      have hi : Cond.instantiable r.1 r.2.2 ∈ pw_W := by
        subst hr
        refine pw_m_ni ?_
        have h0 : pw_Wni[c]? = some (Cond.instantiable (pw_cn c) (pw_fld_d.getD c []).length) := by
          have hc : c = 0 ∨ c = 1 ∨ c = 2 ∨ c = 3 ∨ c = 4 ∨ c = 5 ∨ c = 6 ∨ c = 7 ∨ c = 8 ∨ c = 9 := by omega
          rcases hc with rfl | rfl | rfl | rfl | rfl | rfl | rfl | rfl | rfl | rfl <;> rfl
        exact List.mem_of_getElem? h0
      obtain ⟨c0, iS, h⟩ := u_known (C := r.1) (T := r.2.1) (N := r.2.2) hts g2 (hts _ hi)
      exact ⟨(c0, iS), fun q h' => by cases h'; exact h⟩
  exact ⟨(fun c => (Classical.choose (key c)).1, fun c => (Classical.choose (key c)).2), fun c q h => Classical.choose_spec (key c) q h⟩
/-- the law's run on the pure machine -/
def pw_Run (L : Nat) (xs : Nat → Int32) : Prop := ∃ (f : Nat) (M : am_M), am_ev (pw_P L xs) f 0 0 (lv_args 0 [.retAddr 0]) [] ([], 0) = some (some (.int 1), M) ∧ M.1.length ≤ 600000 ∧ M.2 ≤ 7302250
theorem pw_start {p : Program} {e : Env} {s : State} {m : MethodId} {below : List Frame} {meth : Method} {c : Code} (l : Launch) {b L : Nat} {xs : Nat → Int32} (hrun : pw_Run L xs) (C0 : lw_At p s m meth c b L xs) : W p l e room_1 s m #[Value.ref b] below meth c s.heap [] 0 0 (lw_Z below #[Value.ref b] s) (entryFrame m ([Value.ref b] : List Value).toArray 4) := by
  obtain ⟨hx, hb, hr, hml, hown, hts, hX, hbl, hlocks, hgv⟩ := id C0
  obtain ⟨f, M, hev, hm1, hm2⟩ := hrun
  have htW : ∀ w ∈ pw_W, w.before #[Value.ref b] s = true := fun w hw => hts w (pw_W_in w hw)
  have htN : ∀ w ∈ pw_N, va_Nw w s := fun w hw => by
    have h1 := pw_N_nw w hw
    have h2 := hts w (pw_N_in w hw)
    cases w <;> first | (cases h1; done) | exact va_Nw.of rfl h2 | (rename_i ty; cases ty <;> first | (cases h1; done) | exact va_AO.of h2)
  obtain ⟨D, hKn⟩ := pw_known htW
  obtain ⟨AT, hAT⟩ := pw_arr htW htN
  have hst : ∀ k : Nat, ∃ t : Nat, k < pw_S.length → t < s.heap.size ∧ va_X t (pw_tab_l.getD k []).length (pw_tbl k) s s.heap ∧ (∃ cell : Cell, s.heap[t]? = some cell ∧ s.vm.findClass "[I" = some cell.cls) ∧ va_Z (pw_S.getD k ("", "", "")).1 (pw_S.getD k ("", "", "")).2.1 (pw_S.getD k ("", "", "")).2.2 (.ref t) (fun q => s.heap.size ≤ q) s s.heap := by
    intro k
    by_cases hk : k < pw_S.length
    · obtain ⟨t, h⟩ := pw_stat hts hgv hk
      exact ⟨t, fun _ => h⟩
    · exact ⟨0, fun h => absurd h hk⟩
  obtain ⟨t, ht⟩ : ∃ t : Nat → Nat, ∀ k : Nat, k < pw_S.length → t k < s.heap.size ∧ va_X (t k) (pw_tab_l.getD k []).length (pw_tbl k) s s.heap ∧ (∃ cell : Cell, s.heap[t k]? = some cell ∧ s.vm.findClass "[I" = some cell.cls) ∧ va_Z (pw_S.getD k ("", "", "")).1 (pw_S.getD k ("", "", "")).2.1 (pw_S.getD k ("", "", "")).2.2 (.ref (t k)) (fun q => s.heap.size ≤ q) s s.heap := ⟨fun k => Classical.choose (hst k), fun k => Classical.choose_spec (hst k)⟩
  have hK : va_K D (am_kl pw_B) (am_tys pw_B (AT, pw_cs b t, s.heap.size)) s := by
    refine ⟨hKn, fun k q hq => ?_⟩
    simp only [am_tys, List.getElem?_mapIdx, Option.map_eq_some_iff] at hq
    obtain ⟨ty, h1, rfl⟩ := hq
    exact hAT k ty h1
  have hKc : am_Kc (pw_P L xs) pw_B (AT, pw_cs b t, s.heap.size) s s.heap := by
    refine ⟨fun c n f hc => ?_, fun k q hq => ?_⟩
    · replace hc : pw_cst L xs c = some (n, f) := hc
      cases c with
      | zero =>
        cases hc
        exact ⟨hbl, hbl, hX, fun h => absurd rfl h⟩
      | succ k =>
        unfold pw_cst at hc
        dsimp only at hc
        by_cases hk : k < pw_tab_l.length
        · rw [if_pos hk] at hc
          cases hc
          obtain ⟨a1, a2, a3, -⟩ := ht k hk
          exact ⟨a1, a1, a2, fun _ => a3⟩
        · rw [if_neg hk] at hc
          cases hc
    · replace hq : pw_S[k]? = some q := hq
      have hk : k < pw_S.length := (List.getElem?_eq_some_iff.mp hq).1
      obtain ⟨-, -, -, a4⟩ := ht k hk
      have e : pw_S.getD k ("", "", "") = q := by rw [List.getD_eq_getElem?_getD, hq]; rfl
      rw [e] at a4
      exact a4
  have hX0 : am_X (pw_P L xs) pw_B D (AT, pw_cs b t, s.heap.size) p room_1 s m #[Value.ref b] meth c 0 :=
    ⟨hx, hb, hml, hr, hlocks, hown, (fun h => absurd (show pw_ini 0 = true from h) (by decide)), htW, htN, hK, hKc, Nat.le_refl _, (show pw_rF 0 ≤ 15 by decide), (show pw_rL 0 ≤ 580 by decide)⟩
  have hl := lv_entry ([.ref b]) (n := 4) (Nat.le_of_ble_eq_true rfl)
  rw [lg_entry_eq]
  generalize (lg_sl ([.ref b]) ++ List.replicate (4 - (lg_sl ([.ref b])).length) Slot.unset).toArray = ls at hl ⊢
  have K := am_ev_sound (pw_G L xs) l D (AT, pw_cs b t, s.heap.size) f 0 0 (lv_args 0 [.retAddr 0]) [] ([], 0) (some (.int 1)) M hev (p := p) (e := e) (below := below) (Q := lw_Z below #[Value.ref b] s) (k0 := 0) (n0 := 0) hX0 hm1 hm2
    (fun H locs ls pc ins st hcd hrt hR hS => ?_) s.heap [] ls ⟨fun k q h => (by simp [am_ws] at h), rfl⟩ va_S.rf hl (Nat.le_refl _) (Nat.le_refl _)
  · exact K
  · have hins : ins = .ireturn ∧ st = [.int 1] := by
      unfold am_rt at hrt
      split at hrt <;> (repeat' (split at hrt)) <;> first | (cases hrt; done) | (cases hrt; exact ⟨rfl, rfl⟩)
    obtain ⟨rfl, rfl⟩ := hins
    obtain ⟨len, hdg, hlen⟩ := pw_G1 L xs 0 pc _ hcd
    refine va_forget (fun q hq => hS.2.2 q hq) ?_
    refine W.widen (k := 600000) (n := 7302250) hm1 hm2 ?_
    exact lw_ret (d0 := s.drawn) (Drawn.sameBut.refl s.drawn lw_cs) hx hb hr hlocks (am_lq hlen hdg rfl)

end

/-! 40.triples.lean.txt -/
section
/-! ===== what a run of the pure machine comes to ===== -/
section AMT
variable {P : am_Pg} {mi : Nat} {pc pc' : Nat} {lv lv' : am_L} {st st' : List Value} {M M' : am_M}
/-- one turn of the machine, over any machine below it -/
def am_e1 (P : am_Pg) (ev : Nat → Nat → am_L → List Value → am_M → Option (Option Value × am_M)) (mi pc : Nat) (lv : am_L) (st : List Value) (M : am_M) : Option (Option Value × am_M) := match am_code P mi pc with
  | none => none
  | some ins => match am_cl P mi ins with
    | some (mj, n) => bif am_rc P mi ins mj n st M then (match ev mj 0 (lv_args 0 (st.take n).reverse) [] M with
        | some (v, M') => ev mi (pc + 3) lv (v.toList ++ st.drop n) M'
        | none => none) else none
    | none => match am_rt P mi ins st with
      | some v => some (v, M)
      | none => match am_st P mi ins pc lv st M with
        | some (pc', lv', st', M') => ev mi pc' lv' st' M'
        | none => none
theorem am_ev_s (f : Nat) : am_ev P (f + 1) = am_e1 P (am_ev P f) := by
  funext mi pc lv st M
  rfl
theorem am_e1m {ev ev' : Nat → Nat → am_L → List Value → am_M → Option (Option Value × am_M)} (he : ∀ mi pc lv st M r, ev mi pc lv st M = some r → ev' mi pc lv st M = some r) {r : Option Value × am_M} (h : am_e1 P ev mi pc lv st M = some r) : am_e1 P ev' mi pc lv st M = some r := by
  unfold am_e1 at h ⊢
  cases hc : am_code P mi pc with
  | none => rw [hc] at h; cases h
  | some ins =>
    rw [hc] at h
    dsimp only at h ⊢
    cases hcl : am_cl P mi ins with
    | some q =>
      obtain ⟨mj, n⟩ := q
      rw [hcl] at h
      dsimp only at h ⊢
      obtain ⟨h1, h⟩ := am_bif h
      rw [h1]
      dsimp only [cond_true]
      cases h2 : ev mj 0 (lv_args 0 (st.take n).reverse) [] M with
      | none => rw [h2] at h; cases h
      | some q =>
        obtain ⟨v, M1⟩ := q
        rw [h2] at h
        rw [he _ _ _ _ _ _ h2]
        exact he _ _ _ _ _ _ h
    | none =>
      rw [hcl] at h
      dsimp only at h ⊢
      cases hrt : am_rt P mi ins st with
      | some v =>
        rw [hrt] at h
        exact h
      | none =>
        rw [hrt] at h
        dsimp only at h ⊢
        cases hst : am_st P mi ins pc lv st M with
        | none => rw [hst] at h; cases h
        | some q =>
          obtain ⟨p1, l1, s1, m1⟩ := q
          rw [hst] at h
          exact he _ _ _ _ _ _ h
/-- more fuel, the same answer -/
theorem am_fuel1 : ∀ (f mi pc : Nat) (lv : am_L) (st : List Value) (M : am_M) (r : Option Value × am_M), am_ev P f mi pc lv st M = some r → am_ev P (f + 1) mi pc lv st M = some r := by
  intro f
  induction f with
  | zero => intro mi pc lv st M r h; cases h
  | succ f ih =>
    intro mi pc lv st M r h
    rw [am_ev_s] at h ⊢
    exact am_e1m ih h
theorem am_fuel (f mi pc : Nat) (lv : am_L) (st : List Value) (M : am_M) (r : Option Value × am_M) (h : am_ev P f mi pc lv st M = some r) (g : Nat) (hg : f ≤ g) : am_ev P g mi pc lv st M = some r := by
  obtain ⟨d, rfl⟩ := Nat.exists_eq_add_of_le hg
  clear hg
  induction d with
  | zero => exact h
  | succ d ih => exact am_fuel1 _ _ _ _ _ _ _ ih
/-- from here it comes to an end, with an answer and a memory of which Q holds -/
def am_To (P : am_Pg) (mi pc : Nat) (lv : am_L) (st : List Value) (M : am_M) (Q : Option Value → am_M → Prop) : Prop := ∃ (f : Nat) (v : Option Value) (M' : am_M), am_ev P f mi pc lv st M = some (v, M') ∧ Q v M'
theorem am_To.mono {Q Q' : Option Value → am_M → Prop} (h : am_To P mi pc lv st M Q) (hq : ∀ v M', Q v M' → Q' v M') : am_To P mi pc lv st M Q' := by
  obtain ⟨f, v, M', h1, h2⟩ := h
  exact ⟨f, v, M', h1, hq v M' h2⟩
theorem am_To.stp {ins : Instr} {Q : Option Value → am_M → Prop} (hc : am_code P mi pc = some ins) (hcl : am_cl P mi ins = none) (hrt : am_rt P mi ins st = none) (hst : am_st P mi ins pc lv st M = some (pc', lv', st', M')) (k : am_To P mi pc' lv' st' M' Q) : am_To P mi pc lv st M Q := by
  obtain ⟨f, v, M1, h1, h2⟩ := k
  refine ⟨f + 1, v, M1, ?_, h2⟩
  rw [am_ev_s]
  generalize am_ev P f = ev at h1
  unfold am_e1
  rw [hc]
  dsimp only
  rw [hcl]
  dsimp only
  rw [hrt]
  dsimp only
  rw [hst]
  exact h1
theorem am_To.ret {ins : Instr} {v : Option Value} {Q : Option Value → am_M → Prop} (hc : am_code P mi pc = some ins) (hcl : am_cl P mi ins = none) (hrt : am_rt P mi ins st = some v) (k : Q v M) : am_To P mi pc lv st M Q := by
  refine ⟨1, v, M, ?_, k⟩
  rw [am_ev_s]
  generalize am_ev P 0 = ev
  unfold am_e1
  rw [hc]
  dsimp only
  rw [hcl]
  dsimp only
  rw [hrt]
theorem am_To.cal {ins : Instr} {mj n : Nat} {Q : Option Value → am_M → Prop} (hc : am_code P mi pc = some ins) (hcl : am_cl P mi ins = some (mj, n)) (hrc : am_rc P mi ins mj n st M = true) (k : am_To P mj 0 (lv_args 0 (st.take n).reverse) [] M (fun v M' => am_To P mi (pc + 3) lv (v.toList ++ st.drop n) M' Q)) : am_To P mi pc lv st M Q := by
  obtain ⟨f, v, M1, h1, g, v2, M2, h2, h3⟩ := k
  refine ⟨max f g + 1, v2, M2, ?_, h3⟩
  have e1 := am_fuel _ _ _ _ _ _ _ h1 (max f g) (Nat.le_max_left _ _)
  have e2 := am_fuel _ _ _ _ _ _ _ h2 (max f g) (Nat.le_max_right _ _)
  rw [am_ev_s]
  generalize am_ev P (max f g) = ev at e1 e2
  unfold am_e1
  rw [hc]
  dsimp only
  rw [hcl]
  dsimp only
  rw [hrc, e1]
  exact e2
/-- a stretch of n instructions without calls and answers -/
def am_go_ (P : am_Pg) (mi : Nat) : Nat → am_C → Option am_C
  | 0, c => some c
  | n + 1, c => match am_code P mi c.1 with
    | none => none
    | some ins => match am_cl P mi ins with
      | some _ => none
      | none => match am_rt P mi ins c.2.2.1 with
        | some _ => none
        | none => match am_st P mi ins c.1 c.2.1 c.2.2.1 c.2.2.2 with
          | some c' => am_go_ P mi n c'
          | none => none
theorem am_To.run (n : Nat) {Q : Option Value → am_M → Prop} (h : am_go_ P mi n (pc, lv, st, M) = some (pc', lv', st', M')) (k : am_To P mi pc' lv' st' M' Q) : am_To P mi pc lv st M Q := by
  induction n generalizing pc lv st M with
  | zero => cases h; exact k
  | succ n ih =>
    unfold am_go_ at h
    dsimp only at h
    split at h
    · cases h
    · rename_i ins hc
      split at h
      · cases h
      · rename_i hcl
        split at h
        · cases h
        · rename_i hrt
          split at h
          · rename_i c' hst
            obtain ⟨p1, l1, s1, m1⟩ := c'
            exact am_To.stp hc hcl hrt hst (ih h)
          · cases h
/-- a method's contract -/
def am_Mt (P : am_Pg) (mj : Nat) (as_ : List Value) (M : am_M) (Q : Option Value → am_M → Prop) : Prop := am_To P mj 0 (lv_args 0 as_) [] M Q
theorem am_Mt.mono {mj : Nat} {as_ : List Value} {Q Q' : Option Value → am_M → Prop} (h : am_Mt P mj as_ M Q) (hq : ∀ v M', Q v M' → Q' v M') : am_Mt P mj as_ M Q' := am_To.mono h hq
/-- a call, by the callee's contract -/
theorem am_To.mt {ins : Instr} {mj n : Nat} {as_ rest : List Value} {Q R : Option Value → am_M → Prop} (hm : am_Mt P mj as_ M R) (hc : am_code P mi pc = some ins) (hcl : am_cl P mi ins = some (mj, n)) (hrc : am_rc P mi ins mj n st M = true) (ha : (st.take n).reverse = as_) (hr : st.drop n = rest)
    (k : ∀ v M', R v M' → am_To P mi (pc + 3) lv (v.toList ++ rest) M' Q) : am_To P mi pc lv st M Q := by
  refine am_To.cal hc hcl hrc ?_
  rw [ha, hr]
  exact am_To.mono hm k
end AMT
/-- the law's run, as a triple -/
theorem pw_Run_of {L : Nat} {xs : Nat → Int32} (h : am_To (pw_P L xs) 0 0 (lv_args 0 [.retAddr 0]) [] ([], 0) (fun v M => v = some (.int 1) ∧ M.1.length ≤ 600000 ∧ M.2 ≤ 7302250)) : pw_Run L xs := by
  obtain ⟨f, v, M, h1, rfl, h2, h3⟩ := h
  exact ⟨f, M, h1, h2, h3⟩

end

/-! 49.kinds.lean.txt -/
section
/-! ===== printed by wip/gen/kinds.py: the kinds of all that the constructors make, by the places of the pure heap ===== -/
/-- a kind: an object (class; its fields: a word, or a reference: kind, how far on) or an array (kind of array, length, of references: kind, how far on, stride; stride 0: the row of a history) -/
abbrev fl_K : Type := (Nat × List (Option (Nat × Nat))) ⊕ (Nat × Nat × Nat × Nat × Nat)
/-- 0 PackWatch; 1 State@now; 2 cells@now; 3 Told@now; 4 settings@now; 5 stuckHow@now; 6 prices@now; 7 zones@now; 8 pieces@now; 9 rules@now; 10 Watch@now; 11 whens@now; 12 culprits@now; 13 Book@now; 14 bookRow@now; 15 marks@now; 16 Trace@now; 17 traceRow@now; 18 Cell@now; 19 Turns@now; 20 at@now; 21 cycles@now; 22 Mark@now; 23 parts@now; 24 throughs@now; 25 State@sto; 26 cells@sto; 27 Told@sto; 28 settings@sto; 29 stuckHow@sto; 30 prices@sto; 31 zones@sto; 32 pieces@sto; 33 rules@sto; 34 Watch@sto; 35 whens@sto; 36 culprits@sto; 37 Book@sto; 38 bookRow@sto; 39 marks@sto; 40 Trace@sto; 41 traceRow@sto; 42 Cell@sto; 43 Turns@sto; 44 at@sto; 45 cycles@sto; 46 Mark@sto; 47 parts@sto; 48 throughs@sto; 49 State@tri; 50 cells@tri; 51 Told@tri; 52 settings@tri; 53 stuckHow@tri; 54 prices@tri; 55 zones@tri; 56 pieces@tri; 57 rules@tri; 58 Watch@tri; 59 whens@tri; 60 culprits@tri; 61 Book@tri; 62 bookRow@tri; 63 marks@tri; 64 Trace@tri; 65 traceRow@tri; 66 Cell@tri; 67 Turns@tri; 68 at@tri; 69 cycles@tri; 70 Mark@tri; 71 parts@tri; 72 throughs@tri; 73 History; 74 states; 75 plan; 76 Model; 77 bounds; 78 rests; 79 a; 80 image; 81 shuntPart; 82 aside; 83 least -/
def fk_kd_l : List fl_K := [.inl (8, [some (1, 1), some (25, 91), some (49, 181), some (73, 271), some (73, 273), some (75, 275), some (75, 276)]),
  .inl (4, [some (2, 1), some (3, 2), some (10, 9), some (15, 14), some (16, 15), none, none, none, none, none, none, none, none, none, none, none, none]),
  .inr (2, 16, 18, 16, 4),
  .inl (5, [some (4, 1), some (5, 2), some (6, 3), some (7, 4), some (8, 5), some (9, 6), none, none, none]),
  .inr (0, 30, 0, 0, 0),
  .inr (0, 3, 0, 0, 0),
  .inr (0, 24, 0, 0, 0),
  .inr (0, 12, 0, 0, 0),
  .inr (0, 48, 0, 0, 0),
  .inr (0, 40, 0, 0, 0),
  .inl (7, [some (11, 1), some (12, 2), some (13, 3), none, none, none, none]),
  .inr (0, 11, 0, 0, 0),
  .inr (0, 4, 0, 0, 0),
  .inl (2, [none, some (14, 1), none, none]),
  .inr (0, 72, 0, 0, 0),
  .inr (3, 3, 22, 67, 3),
  .inl (2, [none, some (17, 1), none, none]),
  .inr (0, 96, 0, 0, 0),
  .inl (0, [none, none, none, none, none, none, none, none, none, none, none, none, none, none, none, none, none, none, none, some (19, 1)]),
  .inl (6, [some (20, 1), some (21, 2), none]),
  .inr (0, 32, 0, 0, 0),
  .inr (0, 11, 0, 0, 0),
  .inl (3, [some (23, 1), some (24, 2), none, none]),
  .inr (0, 16, 0, 0, 0),
  .inr (0, 16, 0, 0, 0),
  .inl (4, [some (26, 1), some (27, 2), some (34, 9), some (39, 14), some (40, 15), none, none, none, none, none, none, none, none, none, none, none, none]),
  .inr (2, 16, 42, 16, 4),
  .inl (5, [some (28, 1), some (29, 2), some (30, 3), some (31, 4), some (32, 5), some (33, 6), none, none, none]),
  .inr (0, 30, 0, 0, 0),
  .inr (0, 3, 0, 0, 0),
  .inr (0, 24, 0, 0, 0),
  .inr (0, 12, 0, 0, 0),
  .inr (0, 48, 0, 0, 0),
  .inr (0, 40, 0, 0, 0),
  .inl (7, [some (35, 1), some (36, 2), some (37, 3), none, none, none, none]),
  .inr (0, 11, 0, 0, 0),
  .inr (0, 4, 0, 0, 0),
  .inl (2, [none, some (38, 1), none, none]),
  .inr (0, 72, 0, 0, 0),
  .inr (3, 3, 46, 67, 3),
  .inl (2, [none, some (41, 1), none, none]),
  .inr (0, 96, 0, 0, 0),
  .inl (0, [none, none, none, none, none, none, none, none, none, none, none, none, none, none, none, none, none, none, none, some (43, 1)]),
  .inl (6, [some (44, 1), some (45, 2), none]),
  .inr (0, 32, 0, 0, 0),
  .inr (0, 11, 0, 0, 0),
  .inl (3, [some (47, 1), some (48, 2), none, none]),
  .inr (0, 16, 0, 0, 0),
  .inr (0, 16, 0, 0, 0),
  .inl (4, [some (50, 1), some (51, 2), some (58, 9), some (63, 14), some (64, 15), none, none, none, none, none, none, none, none, none, none, none, none]),
  .inr (2, 16, 66, 16, 4),
  .inl (5, [some (52, 1), some (53, 2), some (54, 3), some (55, 4), some (56, 5), some (57, 6), none, none, none]),
  .inr (0, 30, 0, 0, 0),
  .inr (0, 3, 0, 0, 0),
  .inr (0, 24, 0, 0, 0),
  .inr (0, 12, 0, 0, 0),
  .inr (0, 48, 0, 0, 0),
  .inr (0, 40, 0, 0, 0),
  .inl (7, [some (59, 1), some (60, 2), some (61, 3), none, none, none, none]),
  .inr (0, 11, 0, 0, 0),
  .inr (0, 4, 0, 0, 0),
  .inl (2, [none, some (62, 1), none, none]),
  .inr (0, 72, 0, 0, 0),
  .inr (3, 3, 70, 67, 3),
  .inl (2, [none, some (65, 1), none, none]),
  .inr (0, 96, 0, 0, 0),
  .inl (0, [none, none, none, none, none, none, none, none, none, none, none, none, none, none, none, none, none, none, none, some (67, 1)]),
  .inl (6, [some (68, 1), some (69, 2), none]),
  .inr (0, 32, 0, 0, 0),
  .inr (0, 11, 0, 0, 0),
  .inl (3, [some (71, 1), some (72, 2), none, none]),
  .inr (0, 16, 0, 0, 0),
  .inr (0, 16, 0, 0, 0),
  .inl (1, [some (74, 1), none, none]),
  .inr (4, 20, 25, 0, 0),
  .inr (1, 325, 0, 0, 0),
  .inl (9, [some (77, 1), some (78, 2), some (79, 3), some (80, 4), none, some (81, 5), none, none, some (82, 6), some (83, 7)]),
  .inr (0, 90, 0, 0, 0),
  .inr (0, 11, 0, 0, 0),
  .inr (0, 29780, 0, 0, 0),
  .inr (0, 29780, 0, 0, 0),
  .inr (0, 16, 0, 0, 0),
  .inr (0, 1418, 0, 0, 0),
  .inr (0, 16250, 0, 0, 0)]
def fk_K0 : List Nat := [0, 1, 2, 3, 4, 5, 6, 7, 8, 9, 10, 11, 12, 13, 14, 15, 16, 17, 18, 19, 20, 21, 18, 19, 20, 21, 18, 19, 20, 21, 18, 19, 20, 21, 18, 19, 20, 21, 18, 19, 20, 21, 18, 19, 20, 21, 18, 19, 20, 21, 18, 19, 20, 21, 18, 19, 20, 21, 18, 19, 20, 21, 18, 19, 20, 21, 18, 19, 20, 21, 18, 19, 20, 21, 18, 19, 20, 21, 18, 19, 20, 21, 22, 23, 24, 22, 23, 24, 22, 23, 24, 25, 26, 27, 28, 29, 30, 31, 32, 33, 34, 35, 36, 37, 38, 39, 40, 41, 42, 43, 44, 45, 42, 43, 44, 45, 42, 43, 44, 45, 42, 43, 44, 45, 42, 43, 44, 45, 42, 43, 44, 45, 42, 43, 44, 45, 42, 43, 44, 45, 42, 43, 44, 45, 42, 43, 44, 45, 42, 43, 44, 45, 42, 43, 44, 45, 42, 43, 44, 45, 42, 43, 44, 45, 42, 43, 44, 45, 42, 43, 44, 45, 46, 47, 48, 46, 47, 48, 46, 47, 48, 49, 50, 51, 52, 53, 54, 55, 56, 57, 58, 59, 60, 61, 62, 63, 64, 65, 66, 67, 68, 69, 66, 67, 68, 69, 66, 67, 68, 69, 66, 67, 68, 69, 66, 67, 68, 69, 66, 67, 68, 69, 66, 67, 68, 69, 66, 67, 68, 69, 66, 67, 68, 69, 66, 67, 68, 69, 66, 67, 68, 69, 66, 67, 68, 69, 66, 67, 68, 69, 66, 67, 68, 69, 66, 67, 68, 69, 66, 67, 68, 69, 70, 71, 72, 70, 71, 72, 70, 71, 72, 73, 74, 73, 74, 75, 75, 76, 77, 78, 79, 80, 81, 82, 83]
def fk_K1 : List Nat := [25, 26, 27, 28, 29, 30, 31, 32, 33, 34, 35, 36, 37, 38, 39, 40, 41, 42, 43, 44, 45, 42, 43, 44, 45, 42, 43, 44, 45, 42, 43, 44, 45, 42, 43, 44, 45, 42, 43, 44, 45, 42, 43, 44, 45, 42, 43, 44, 45, 42, 43, 44, 45, 42, 43, 44, 45, 42, 43, 44, 45, 42, 43, 44, 45, 42, 43, 44, 45, 42, 43, 44, 45, 42, 43, 44, 45, 42, 43, 44, 45, 46, 47, 48, 46, 47, 48, 46, 47, 48]
def fk_kd (t : Nat) : fl_K := fk_kd_l.getD t (.inr (9, 0, 0, 0, 0))
/-- the kind at a place: 285 places, then states of the histories, 90 places each -/
def fk_K (p : Nat) : Nat := if p < 285 then fk_K0.getD p 0 else fk_K1.getD ((p - 285) % 90) 0
def fl_N (h : Nat) : Nat := 285 + 90 * h
def fl_S (h : Nat) : Nat := 82750 + 1564 * h

end

/-! 50.flat.lean.txt -/
section
/-! ===== FLAT MEMORY: all that the two constructors make has its kind and its place (49); what changes is words: ints, longs, how many states were made ===== -/
/-- a value: int, long, reference (kind, place), table, float, double -/
abbrev fl_V : Type := Int32 ⊕ (Int64 ⊕ ((Nat × Nat) ⊕ (Nat ⊕ (UInt32 ⊕ UInt64))))
abbrev fl_M : Type := (Nat → Nat → Int32) × ((Nat → Nat → Int64) × Nat)
abbrev fl_L : Type := List (Option fl_V)
abbrev fl_C : Type := Nat × fl_L × List fl_V × fl_M
/-- what it is on the pure machine -/
def fl_c (v : fl_V) : Value := match v with
  | .inl x => .int x
  | .inr (.inl x) => .long x
  | .inr (.inr (.inl q)) => .ref q.2
  | .inr (.inr (.inr (.inl c))) => .retAddr c
  | .inr (.inr (.inr (.inr (.inl x)))) => .float x
  | .inr (.inr (.inr (.inr (.inr x)))) => .double x
def fl_cat (v : fl_V) : Nat := match v with
  | .inl _ => 1
  | .inr (.inl _) => 2
  | .inr (.inr (.inl _)) => 1
  | .inr (.inr (.inr (.inl _))) => 1
  | .inr (.inr (.inr (.inr (.inl _)))) => 1
  | .inr (.inr (.inr (.inr (.inr _)))) => 2
theorem fl_cat_c (v : fl_V) : (fl_c v).category = fl_cat v := by
  rcases v with x | x | q | c | x | x <;> rfl
def fl_fv (p : Nat) (w : Nat → Int32) (j : Nat) (f : Option (Nat × Nat)) : Value := match f with
  | none => .int (w j)
  | some q => .ref (p + q.2)
def fl_ob (k : fl_K) (p : Nat) (w : Nat → Int32) (l : Nat → Int64) : am_O := match k with
  | .inl (ci, fs) => .inr (ci, fs.mapIdx (fl_fv p w))
  | .inr (0, n, _) => .inl (0, n, .inl w)
  | .inr (1, n, _) => .inl (1, n, .inr (.inl l))
  | .inr (t, n, _, b, m) => .inl (t, n, .inr (.inr (.inr (.inr (fun i => if i < n then (if m = 0 then (if w i = 0 then none else some (w i).toNatClampNeg) else some (p + b + m * i)) else none)))))
/-- the memory as the pure machine has it -/
def fl_H (m : fl_M) : am_M := ((List.range (fl_N m.2.2)).map (fun p => fl_ob (fk_kd (fk_K p)) p (m.1 p) (m.2.1 p)), fl_S m.2.2)
def fl_up (f : Nat → Nat → Int32) (p k : Nat) (v : Int32) : Nat → Nat → Int32 := fun q j => if q = p ∧ j = k then v else f q j
def fl_row (f : Nat → Nat → Int32) (p : Nat) (w : Nat → Int32) : Nat → Nat → Int32 := fun q j => if q = p then w j else f q j
def fl_upL (f : Nat → Nat → Int64) (p k : Nat) (v : Int64) : Nat → Nat → Int64 := fun q j => if q = p ∧ j = k then v else f q j
theorem fl_get {m : fl_M} {p : Nat} (h : p < fl_N m.2.2) : (fl_H m).1[p]? = some (fl_ob (fk_kd (fk_K p)) p (m.1 p) (m.2.1 p)) := by
  simp [fl_H, h]
theorem fl_row_self (f : Nat → Nat → Int32) (p : Nat) (w : Nat → Int32) : fl_row f p w p = w := by
  funext j
  simp [fl_row]
theorem fl_row_ne {f : Nat → Nat → Int32} {p q : Nat} {w : Nat → Int32} (h : q ≠ p) : fl_row f p w q = f q := by
  funext j
  simp [fl_row, h]
theorem fl_setR {m : fl_M} {p : Nat} {w : Nat → Int32} (h : p < fl_N m.2.2) : ((fl_H m).1.set p (fl_ob (fk_kd (fk_K p)) p w (m.2.1 p)), (fl_H m).2) = fl_H (fl_row m.1 p w, m.2) := by
  unfold fl_H
  refine Prod.ext ?_ rfl
  refine List.ext_getElem? (fun q => ?_)
  by_cases hq : q = p
  · subst hq
    simp [List.getElem?_set, h, fl_row_self]
  · rw [List.getElem?_set_ne (Ne.symm hq)]
    by_cases h2 : q < fl_N m.2.2
    · simp [h2, fl_row_ne hq]
    · simp [h2]
theorem fl_setL {m : fl_M} {p : Nat} {l : Nat → Int64} (h : p < fl_N m.2.2) : ((fl_H m).1.set p (fl_ob (fk_kd (fk_K p)) p (m.1 p) l), (fl_H m).2) = fl_H (m.1, (fun q j => if q = p then l j else m.2.1 q j), m.2.2) := by
  unfold fl_H
  refine Prod.ext ?_ rfl
  refine List.ext_getElem? (fun q => ?_)
  by_cases hq : q = p
  · subst hq
    simp [List.getElem?_set, h]
  · rw [List.getElem?_set_ne (Ne.symm hq)]
    by_cases h2 : q < fl_N m.2.2
    · simp [h2, hq]
    · simp [h2]
theorem fl_up_row (f : Nat → Nat → Int32) (p k : Nat) (v : Int32) : fl_up f p k v = fl_row f p (upd (f p) k v) := by
  funext q j
  unfold fl_up fl_row upd
  by_cases h1 : q = p <;> by_cases h2 : j = k <;> simp [h1, h2]
/-- a field is written -/
theorem fl_fset {p k : Nat} {w : Nat → Int32} {fs : List (Option (Nat × Nat))} {x : Int32} (h : fs[k]? = some none) : (fs.mapIdx (fl_fv p w)).set k (.int x) = fs.mapIdx (fl_fv p (upd w k x)) := by
  refine List.ext_getElem? (fun j => ?_)
  by_cases hj : j = k
  · subst hj
    have hl : j < fs.length := (List.getElem?_eq_some_iff.mp h).1
    rw [List.getElem?_set_self (by simpa using hl)]
    simp [List.getElem?_mapIdx, h, fl_fv, upd]
  · rw [List.getElem?_set_ne (Ne.symm hj)]
    simp only [List.getElem?_mapIdx]
    cases fs[j]? with
    | none => rfl
    | some o => cases o <;> simp [fl_fv, upd, hj]
/-- references that hold: the kind is right, the place is made -/
def fl_ok (h : Nat) (v : fl_V) : Prop := match v with
  | .inr (.inr (.inl q)) => fk_K q.2 = q.1 ∧ q.2 < fl_N h
  | _ => True
def fk_okf (K : Nat → Nat) (lim p : Nat) : Bool := match fk_kd (K p) with
  | .inl (_, fs) => fs.all (fun f => match f with
    | none => true
    | some q => decide (p + q.2 < lim) && decide (K (p + q.2) = q.1))
  | .inr (_, n, t, b, m) => decide (m = 0) || (List.range n).all (fun i => decide (p + b + m * i < lim) && decide (K (p + b + m * i) = t))
set_option maxRecDepth 100000 in
theorem fk_ok0 : (List.range 285).all (fk_okf (fun p => fk_K0.getD p 0) 285) = true := by decide +kernel
set_option maxRecDepth 100000 in
theorem fk_ok1 : (List.range 90).all (fk_okf (fun p => fk_K1.getD p 0) 90) = true := by decide +kernel
theorem fk_K_lo {p : Nat} (h : p < 285) : fk_K p = fk_K0.getD p 0 := by simp [fk_K, h]
theorem fk_K_hi {r q : Nat} (h : r < 90) : fk_K (285 + 90 * q + r) = fk_K1.getD r 0 := by
  unfold fk_K
  rw [if_neg (by omega)]
  have e : (285 + 90 * q + r - 285) % 90 = r := by omega
  rw [e]
/-- a field that is a reference leads to its kind -/
theorem fk_fld {h p ci k : Nat} {fs : List (Option (Nat × Nat))} {q : Nat × Nat} (hp : p < fl_N h) (hk : fk_kd (fk_K p) = .inl (ci, fs)) (hf : fs[k]? = some (some q)) : fk_K (p + q.2) = q.1 ∧ p + q.2 < fl_N h := by
  unfold fl_N at hp ⊢
  by_cases hl : p < 285
  · have H := List.all_eq_true.mp fk_ok0 p (List.mem_range.mpr hl)
    rw [fk_K_lo hl] at hk
    unfold fk_okf at H
    rw [hk] at H
    have := List.all_eq_true.mp H _ (List.mem_of_getElem? hf)
    simp only [Bool.and_eq_true, decide_eq_true_eq] at this
    exact ⟨(fk_K_lo this.1).trans this.2, by omega⟩
  · obtain ⟨d, r, hr, rfl⟩ : ∃ d r, r < 90 ∧ p = 285 + 90 * d + r := ⟨(p - 285) / 90, (p - 285) % 90, Nat.mod_lt _ (by decide), by omega⟩
    have H := List.all_eq_true.mp fk_ok1 r (List.mem_range.mpr hr)
    rw [fk_K_hi hr] at hk
    unfold fk_okf at H
    rw [hk] at H
    have := List.all_eq_true.mp H _ (List.mem_of_getElem? hf)
    simp only [Bool.and_eq_true, decide_eq_true_eq] at this
    refine ⟨?_, by omega⟩
    rw [Nat.add_assoc, fk_K_hi this.1]
    exact this.2
theorem fk_elt {h p t n τ b m i : Nat} (hp : p < fl_N h) (hk : fk_kd (fk_K p) = .inr (t, n, τ, b, m)) (hm : m ≠ 0) (hi : i < n) : fk_K (p + b + m * i) = τ ∧ p + b + m * i < fl_N h := by
  unfold fl_N at hp ⊢
  by_cases hl : p < 285
  · have H := List.all_eq_true.mp fk_ok0 p (List.mem_range.mpr hl)
    rw [fk_K_lo hl] at hk
    unfold fk_okf at H
    rw [hk] at H
    simp only [Bool.or_eq_true, decide_eq_true_eq] at H
    have := List.all_eq_true.mp (H.resolve_left hm) _ (List.mem_range.mpr hi)
    simp only [Bool.and_eq_true, decide_eq_true_eq] at this
    exact ⟨(fk_K_lo this.1).trans this.2, by omega⟩
  · obtain ⟨d, r, hr, rfl⟩ : ∃ d r, r < 90 ∧ p = 285 + 90 * d + r := ⟨(p - 285) / 90, (p - 285) % 90, Nat.mod_lt _ (by decide), by omega⟩
    have H := List.all_eq_true.mp fk_ok1 r (List.mem_range.mpr hr)
    rw [fk_K_hi hr] at hk
    unfold fk_okf at H
    rw [hk] at H
    simp only [Bool.or_eq_true, decide_eq_true_eq] at H
    have := List.all_eq_true.mp (H.resolve_left hm) _ (List.mem_range.mpr hi)
    simp only [Bool.and_eq_true, decide_eq_true_eq] at this
    refine ⟨?_, by omega⟩
    have e : 285 + 90 * d + r + b + m * i = 285 + 90 * d + (r + b + m * i) := by omega
    rw [e, fk_K_hi this.1]
    exact this.2

end

/-! 51.flatst.lean.txt -/
section
/-! ===== one instruction over flat memory; it is the pure machine's own (fl_tie) ===== -/
def fl_s0 (lv : fl_L) (i : Nat) : fl_L := match i with
  | 0 => lv
  | j + 1 => match lv[j]? with
    | some (some w) => if fl_cat w = 2 then lv.set j none else lv
    | _ => lv
def fl_s (lv : fl_L) (i : Nat) (v : fl_V) : fl_L := if fl_cat v = 2 then ((fl_s0 lv i).set i (some v)).set (i + 1) none else (fl_s0 lv i).set i (some v)
def fl_LR (lv : fl_L) (la : am_L) : Prop := ∀ (i : Nat) (v : fl_V), lv[i]? = some (some v) → am_lk la i = some (fl_c v)
def fl_ld (w : Nat) (o : Option (Option fl_V)) : Option fl_V := match w, o with
  | 0, some (some (.inl x)) => some (.inl x)
  | 1, some (some (.inr (.inl x))) => some (.inr (.inl x))
  | 4, some (some (.inr (.inr (.inl q)))) => some (.inr (.inr (.inl q)))
  | 4, some (some (.inr (.inr (.inr (.inl c))))) => some (.inr (.inr (.inr (.inl c))))
  | 2, some (some (.inr (.inr (.inr (.inr (.inl x)))))) => some (.inr (.inr (.inr (.inr (.inl x)))))
  | 3, some (some (.inr (.inr (.inr (.inr (.inr x)))))) => some (.inr (.inr (.inr (.inr (.inr x)))))
  | _, _ => none
def fl_pu (n pc : Nat) (lv : fl_L) (st : List fl_V) (m : fl_M) (o : Option fl_V) : Option fl_C := match o with
  | some v => some (pc + n, lv, v :: st, m)
  | none => none
def fl_so (w n pc i nL : Nat) (lv : fl_L) (st : List fl_V) (m : fl_M) : Option fl_C := match st with
  | v :: r => match fl_ld w (some (some v)) with
    | none => none
    | some _ => if fl_cat v = 2 then (if i + 1 < nL then some (pc + n, fl_s lv i v, r, m) else none) else if i < nL then some (pc + n, fl_s lv i v, r, m) else none
  | [] => none
def fl_I (pc : Nat) (lv : fl_L) (st : List fl_V) (m : fl_M) (g : Int32 → Int32 → Int32) : Option fl_C := match st with
  | .inl y :: .inl x :: r => some (pc + 1, lv, .inl (g x y) :: r, m)
  | _ => none
def fl_ID (pc : Nat) (lv : fl_L) (st : List fl_V) (m : fl_M) (g : Int32 → Int32 → Int32) : Option fl_C := match st with
  | .inl y :: .inl x :: r => if y = 0 then none else some (pc + 1, lv, .inl (g x y) :: r, m)
  | _ => none
def fl_J (pc : Nat) (lv : fl_L) (st : List fl_V) (m : fl_M) (g : Int64 → Int64 → Int64) : Option fl_C := match st with
  | .inr (.inl y) :: .inr (.inl x) :: r => some (pc + 1, lv, .inr (.inl (g x y)) :: r, m)
  | _ => none
def fl_JD (pc : Nat) (lv : fl_L) (st : List fl_V) (m : fl_M) (g : Int64 → Int64 → Int64) : Option fl_C := match st with
  | .inr (.inl y) :: .inr (.inl x) :: r => if y = 0 then none else some (pc + 1, lv, .inr (.inl (g x y)) :: r, m)
  | _ => none
def fl_JI (pc : Nat) (lv : fl_L) (st : List fl_V) (m : fl_M) (g : Int64 → Int32 → Int64) : Option fl_C := match st with
  | .inl y :: .inr (.inl x) :: r => some (pc + 1, lv, .inr (.inl (g x y)) :: r, m)
  | _ => none
def fl_br (b : Bool) (pc : Nat) (off : Int) (lv : fl_L) (r : List fl_V) (m : fl_M) : Option fl_C := match am_tg pc off with
  | some t => bif b then some (t, lv, r, m) else some (pc + 3, lv, r, m)
  | none => none
def fl_go (pc : Nat) (off : Int) (lv : fl_L) (r : List fl_V) (m : fl_M) : Option fl_C := match am_tg pc off with
  | some t => some (t, lv, r, m)
  | none => none
def fl_gf (P : am_Pg) (own idx pc : Nat) (lv : fl_L) (st : List fl_V) (m : fl_M) : Option fl_C := match st with
  | .inr (.inr (.inl (τ, p))) :: r => match am_fld P own idx, fk_kd τ with
    | some (ci, k), .inl (cj, fs) => if ci = cj then (match fs[k]? with
      | some none => some (pc + 3, lv, .inl (m.1 p k) :: r, m)
      | some (some q) => some (pc + 3, lv, .inr (.inr (.inl (q.1, p + q.2))) :: r, m)
      | none => none) else none
    | _, _ => none
  | _ => none
def fl_pf (P : am_Pg) (mi own idx pc : Nat) (lv : fl_L) (st : List fl_V) (m : fl_M) : Option fl_C := match st with
  | .inl x :: .inr (.inr (.inl (τ, p))) :: r => match am_fld P own idx, fk_kd τ with
    | some (ci, k), .inl (cj, fs) => match fs[k]? with
      | some none => bif decide (ci = cj) && (am_ft (am_fty P ci k) (.int x) && (!am_fin P ci k || (am_ini P mi && decide (own = ci)))) then some (pc + 3, lv, r, (fl_up m.1 p k x, m.2)) else none
      | _ => none
    | _, _ => none
  | _ => none
def fl_ald (P : am_Pg) (pc : Nat) (lv : fl_L) (st : List fl_V) (m : fl_M) : Option fl_C := match st with
  | .inl i :: .inr (.inr (.inl (τ, p))) :: r => match fk_kd τ with
    | .inr (0, n, _) => bif am_in i n then some (pc + 1, lv, .inl (m.1 p i.toNatClampNeg) :: r, m) else none
    | _ => none
  | .inl i :: .inr (.inr (.inr (.inl c))) :: r => match am_cst P c with
    | some (n, f) => bif am_in i n then some (pc + 1, lv, .inl (f i.toNatClampNeg) :: r, m) else none
    | _ => none
  | _ => none
def fl_ast (pc : Nat) (lv : fl_L) (st : List fl_V) (m : fl_M) : Option fl_C := match st with
  | .inl x :: .inl i :: .inr (.inr (.inl (τ, p))) :: r => match fk_kd τ with
    | .inr (0, n, _) => bif am_in i n then some (pc + 1, lv, r, (fl_up m.1 p i.toNatClampNeg x, m.2)) else none
    | _ => none
  | _ => none
def fl_lald (pc : Nat) (lv : fl_L) (st : List fl_V) (m : fl_M) : Option fl_C := match st with
  | .inl i :: .inr (.inr (.inl (τ, p))) :: r => match fk_kd τ with
    | .inr (1, n, _) => bif am_in i n then some (pc + 1, lv, .inr (.inl (m.2.1 p i.toNatClampNeg)) :: r, m) else none
    | _ => none
  | _ => none
def fl_last (pc : Nat) (lv : fl_L) (st : List fl_V) (m : fl_M) : Option fl_C := match st with
  | .inr (.inl x) :: .inl i :: .inr (.inr (.inl (τ, p))) :: r => match fk_kd τ with
    | .inr (1, n, _) => bif am_in i n then some (pc + 1, lv, r, (m.1, fl_upL m.2.1 p i.toNatClampNeg x, m.2.2)) else none
    | _ => none
  | _ => none
def fl_qald (pc : Nat) (lv : fl_L) (st : List fl_V) (m : fl_M) : Option fl_C := match st with
  | .inl i :: .inr (.inr (.inl (τ, p))) :: r => match fk_kd τ with
    | .inr (t, n, τ', b, d) => bif decide (2 ≤ t ∧ t < 5) && (decide (d ≠ 0) && am_in i n) then some (pc + 1, lv, .inr (.inr (.inl (τ', p + b + d * i.toNatClampNeg))) :: r, m) else none
    | _ => none
  | _ => none
def fl_len (P : am_Pg) (pc : Nat) (lv : fl_L) (st : List fl_V) (m : fl_M) : Option fl_C := match st with
  | .inr (.inr (.inl (τ, _))) :: r => match fk_kd τ with
    | .inr (t, n, _) => if t < 5 then some (pc + 1, lv, .inl (Int32.ofNat n) :: r, m) else none
    | _ => none
  | .inr (.inr (.inr (.inl c))) :: r => match am_cst P c with
    | some (n, _) => some (pc + 1, lv, .inl (Int32.ofNat n) :: r, m)
    | none => none
  | _ => none
def fl_sum (st : List fl_V) : Nat := (st.map fl_cat).sum
/-- arraycopy of ints -/
def fl_n1 (pc : Nat) (lv : fl_L) (st : List fl_V) (m : fl_M) : Option fl_C := match st with
  | .inl n :: .inl dp :: .inr (.inr (.inl (τb, b))) :: .inl sp :: .inr (.inr (.inl (τa, a))) :: r => match fk_kd τa, fk_kd τb with
    | .inr (0, n0, _), .inr (0, n1, _) => bif decide (fl_sum r ≤ 8) && (!(decide (sp < 0)) && (!(decide (dp < 0)) && (!(decide (n < 0)) && (decide (sp.toNatClampNeg + n.toNatClampNeg ≤ n0) && decide (dp.toNatClampNeg + n.toNatClampNeg ≤ n1))))) then some (pc + 3, lv, r, (fl_row m.1 b (va_cpy (m.1 a) (m.1 b) sp.toNatClampNeg dp.toNatClampNeg n.toNatClampNeg), m.2)) else none
    | _, _ => none
  | _ => none
def fl_st (P : am_Pg) (mi : Nat) (ins : Instr) (pc : Nat) (lv : fl_L) (st : List fl_V) (m : fl_M) : Option fl_C := match ins with
  | .iconst n => some (pc + 1, lv, .inl (Int32.ofInt n) :: st, m)
  | .bipush n => some (pc + 2, lv, .inl (Int8.ofInt n).toInt32 :: st, m)
  | .sipush n => some (pc + 3, lv, .inl (Int16.ofInt n).toInt32 :: st, m)
  | .lconst n => some (pc + 1, lv, .inr (.inl (Int64.ofNat (n : Nat))) :: st, m)
  | .ldc i => match am_con P (am_own P mi) i with
    | some (.int v) => some (pc + 2, lv, .inl v :: st, m)
    | _ => none
  | .ldc_w i => match am_con P (am_own P mi) i with
    | some (.int v) => some (pc + 3, lv, .inl v :: st, m)
    | _ => none
  | .ldc2_w i => match am_con P (am_own P mi) i with
    | some (.long v) => some (pc + 3, lv, .inr (.inl v) :: st, m)
    | _ => none
  | .iload_n k => fl_pu 1 pc lv st m (fl_ld 0 lv[(k : Nat)]?)
  | .lload_n k => fl_pu 1 pc lv st m (fl_ld 1 lv[(k : Nat)]?)
  | .aload_n k => fl_pu 1 pc lv st m (fl_ld 4 lv[(k : Nat)]?)
  | .iload i => fl_pu 2 pc lv st m (fl_ld 0 lv[(i : Nat)]?)
  | .lload i => fl_pu 2 pc lv st m (fl_ld 1 lv[(i : Nat)]?)
  | .aload i => fl_pu 2 pc lv st m (fl_ld 4 lv[(i : Nat)]?)
  | .istore_n k => fl_so 0 1 pc k (am_mxl P mi) lv st m
  | .lstore_n k => fl_so 1 1 pc k (am_mxl P mi) lv st m
  | .astore_n k => fl_so 4 1 pc k (am_mxl P mi) lv st m
  | .istore i => fl_so 0 2 pc i (am_mxl P mi) lv st m
  | .lstore i => fl_so 1 2 pc i (am_mxl P mi) lv st m
  | .astore i => fl_so 4 2 pc i (am_mxl P mi) lv st m
  | .iinc i n => match lv[(i : Nat)]? with
    | some (some (.inl x)) => if i < am_mxl P mi then some (pc + 3, fl_s lv i (.inl (x + Int32.ofInt n)), st, m) else none
    | _ => none
  | .iadd => fl_I pc lv st m (· + ·)
  | .isub => fl_I pc lv st m (· - ·)
  | .imul => fl_I pc lv st m (· * ·)
  | .iand => fl_I pc lv st m (· &&& ·)
  | .ior => fl_I pc lv st m (· ||| ·)
  | .ixor => fl_I pc lv st m (· ^^^ ·)
  | .ishl => fl_I pc lv st m (fun x y => x <<< (y &&& 31))
  | .ishr => fl_I pc lv st m (fun x y => x >>> (y &&& 31))
  | .iushr => fl_I pc lv st m (fun x y => (x.toUInt32 >>> (y.toUInt32 &&& Int32.toUInt32 31)).toInt32)
  | .idiv => fl_ID pc lv st m (fun x y => x / y)
  | .irem => fl_ID pc lv st m (fun x y => x - (x / y) * y)
  | .ineg => match st with
    | .inl x :: r => some (pc + 1, lv, .inl (-x) :: r, m)
    | _ => none
  | .ladd => fl_J pc lv st m (· + ·)
  | .lsub => fl_J pc lv st m (· - ·)
  | .lmul => fl_J pc lv st m (· * ·)
  | .land => fl_J pc lv st m (· &&& ·)
  | .ldiv => fl_JD pc lv st m (fun x y => x / y)
  | .lshl => fl_JI pc lv st m (fun x y => x <<< (y.toInt64 &&& 63))
  | .lshr => fl_JI pc lv st m (fun x y => x >>> (y.toInt64 &&& 63))
  | .lcmp => match st with
    | .inr (.inl y) :: .inr (.inl x) :: r => some (pc + 1, lv, .inl (lg_cmp x y) :: r, m)
    | _ => none
  | .i2l => match st with
    | .inl x :: r => some (pc + 1, lv, .inr (.inl x.toInt64) :: r, m)
    | _ => none
  | .l2i => match st with
    | .inr (.inl x) :: r => some (pc + 1, lv, .inl x.toInt32 :: r, m)
    | _ => none
  | .dup => match st with
    | v :: r => if fl_cat v = 1 then some (pc + 1, lv, v :: v :: r, m) else none
    | _ => none
  | .pop => match st with
    | v :: r => if fl_cat v = 1 then some (pc + 1, lv, r, m) else none
    | _ => none
  | .pop2 => match st with
    | v :: r => if fl_cat v = 2 then some (pc + 1, lv, r, m) else none
    | _ => none
  | .dup2 => match st with
    | v :: w :: r => if fl_cat v = 1 ∧ fl_cat w = 1 then some (pc + 1, lv, v :: w :: v :: w :: r, m) else none
    | _ => none
  | .ifCond c off => match st with
    | .inl x :: r => fl_br (am_c1 c x) pc off lv r m
    | _ => none
  | .if_icmp c off => match st with
    | .inl y :: .inl x :: r => fl_br (am_c2 c x y) pc off lv r m
    | _ => none
  | .goto off => fl_go pc off lv st m
  | .tableswitch d lo hi offs => match st with
    | .inl x :: r => bif am_swk x lo hi offs then fl_go pc (am_sw x d lo hi offs) lv r m else none
    | _ => none
  | .getfield i => fl_gf P (am_own P mi) i pc lv st m
  | .putfield i => fl_pf P mi (am_own P mi) i pc lv st m
  | .getstatic i => match am_sta P (am_own P mi) i with
    | some c => some (pc + 3, lv, .inr (.inr (.inr (.inl c))) :: st, m)
    | none => none
  | .iaload => fl_ald P pc lv st m
  | .iastore => fl_ast pc lv st m
  | .laload => fl_lald pc lv st m
  | .lastore => fl_last pc lv st m
  | .aaload => fl_qald pc lv st m
  | .arraylength => fl_len P pc lv st m
  | .invokestatic _ => match am_ntk P mi ins with
    | some 1 => fl_n1 pc lv st m
    | _ => none
  | _ => none

end

/-! 52.fltie.lean.txt -/
section
/-! ===== fl_tie: a step over flat memory is the pure machine's step ===== -/
theorem fl_set_get {l : fl_L} {i j : Nat} {o : Option fl_V} {w : fl_V} (h : (l.set i o)[j]? = some (some w)) : (j = i ∧ o = some w) ∨ (j ≠ i ∧ l[j]? = some (some w)) := by
  by_cases hj : j = i
  · subst hj
    by_cases hl : j < l.length
    · rw [List.getElem?_set_self hl] at h
      exact Or.inl ⟨rfl, Option.some.inj h⟩
    · rw [List.getElem?_eq_none (by rw [List.length_set]; omega)] at h
      cases h
  · rw [List.getElem?_set_ne (Ne.symm hj)] at h
    exact Or.inr ⟨hj, h⟩
theorem fl_s0_get {lv : fl_L} {i j : Nat} {w : fl_V} (h : (fl_s0 lv i)[j]? = some (some w)) : lv[j]? = some (some w) ∧ (j + 1 = i → fl_cat w ≠ 2) := by
  cases i with
  | zero => exact ⟨h, fun e => absurd e (by omega)⟩
  | succ k =>
    unfold fl_s0 at h
    dsimp only at h
    split at h
    · rename_i u hu
      by_cases hc : fl_cat u = 2
      · rw [if_pos hc] at h
        rcases fl_set_get h with ⟨-, h2⟩ | ⟨h1, h2⟩
        · cases h2
        · exact ⟨h2, fun e => absurd (by omega) h1⟩
      · rw [if_neg hc] at h
        refine ⟨h, fun e => ?_⟩
        have e2 : j = k := by omega
        subst e2
        rw [hu] at h
        cases h
        exact hc
    · rename_i hn
      refine ⟨h, fun e => ?_⟩
      have e2 : j = k := by omega
      subst e2
      exact absurd h (hn w)
theorem fl_s_get {lv : fl_L} {i j : Nat} {v w : fl_V} (h : (fl_s lv i v)[j]? = some (some w)) : (j = i ∧ w = v) ∨ (j ≠ i ∧ lv[j]? = some (some w) ∧ (j + 1 = i → fl_cat w ≠ 2) ∧ (fl_cat v = 2 → j ≠ i + 1)) := by
  unfold fl_s at h
  by_cases hc : fl_cat v = 2
  · rw [if_pos hc] at h
    rcases fl_set_get h with ⟨-, h2⟩ | ⟨h1, h2⟩
    · cases h2
    · rcases fl_set_get h2 with ⟨h3, h4⟩ | ⟨h3, h4⟩
      · exact Or.inl ⟨h3, (Option.some.inj h4).symm⟩
      · obtain ⟨h5, h6⟩ := fl_s0_get h4
        exact Or.inr ⟨h3, h5, h6, fun _ => h1⟩
  · rw [if_neg hc] at h
    rcases fl_set_get h with ⟨h3, h4⟩ | ⟨h3, h4⟩
    · exact Or.inl ⟨h3, (Option.some.inj h4).symm⟩
    · obtain ⟨h5, h6⟩ := fl_s0_get h4
      exact Or.inr ⟨h3, h5, h6, fun e => absurd e hc⟩
theorem am_lk_filter {la : am_L} {p : Nat × Value → Bool} {j : Nat} {u : Value} (h : am_lk la j = some u) (hp : p (j, u) = true) : am_lk (la.filter p) j = some u := by
  induction la with
  | nil => cases h
  | cons q r ih =>
    unfold am_lk at h
    split at h
    · rename_i hq
      cases h
      obtain ⟨a, b⟩ := q
      dsimp only at hq
      subst hq
      rw [List.filter_cons_of_pos hp]
      unfold am_lk
      rw [if_pos rfl]
    · rename_i hq
      by_cases hpq : p q = true
      · rw [List.filter_cons_of_pos hpq]
        unfold am_lk
        rw [if_neg hq]
        exact ih h
      · rw [List.filter_cons_of_neg hpq]
        exact ih h
theorem fl_LR.s1 {lv : fl_L} {la : am_L} {i : Nat} {v : fl_V} (h : fl_LR lv la) (hc : fl_cat v ≠ 2) : fl_LR (fl_s lv i v) (am_s1 la i (fl_c v)) := by
  intro j w hj
  unfold am_s1 am_lk
  rcases fl_s_get hj with ⟨rfl, rfl⟩ | ⟨h1, h2, h3, -⟩
  · rw [if_pos rfl]
  · rw [if_neg (fun e => h1 e.symm)]
    refine am_lk_filter (h j w h2) ?_
    simp only [fl_cat_c, Bool.and_eq_true, Bool.not_eq_true', beq_eq_false_iff_ne, Bool.and_eq_false_imp, beq_iff_eq]
    exact ⟨h1, h3⟩
theorem fl_LR.s2 {lv : fl_L} {la : am_L} {i : Nat} {v : fl_V} (h : fl_LR lv la) (hc : fl_cat v = 2) : fl_LR (fl_s lv i v) (am_s2 la i (fl_c v)) := by
  intro j w hj
  unfold am_s2 am_lk
  rcases fl_s_get hj with ⟨rfl, rfl⟩ | ⟨h1, h2, h3, h4⟩
  · rw [if_pos rfl]
  · rw [if_neg (fun e => h1 e.symm)]
    refine am_lk_filter (h j w h2) ?_
    simp only [fl_cat_c, Bool.and_eq_true, Bool.not_eq_true', beq_eq_false_iff_ne, Bool.and_eq_false_imp, beq_iff_eq]
    exact ⟨h1, h4 hc, h3⟩
theorem fl_ld_c {w : Nat} {lv : fl_L} {la : am_L} {i : Nat} {v : fl_V} (hl : fl_LR lv la) (h : fl_ld w lv[i]? = some v) : am_ld w (am_lk la i) = some (fl_c v) := by
  unfold fl_ld at h
  split at h
  all_goals first | (cases h; done) | (rename_i e; cases h; rw [hl i _ e]; rfl)
theorem fl_ld_v {w : Nat} {v u : fl_V} (h : fl_ld w (some (some v)) = some u) : am_ld w (some (fl_c v)) = some (fl_c v) ∧ u = v := by
  unfold fl_ld at h
  split at h
  all_goals first | (cases h; done) | (rename_i e; cases e; cases h; exact ⟨rfl, rfl⟩)
theorem fl_so_c {w n pc i nL : Nat} {lv lv' : fl_L} {st st' : List fl_V} {m m' : fl_M} {pc' : Nat} {la : am_L} (hl : fl_LR lv la) (h : fl_so w n pc i nL lv st m = some (pc', lv', st', m')) : ∃ la', am_so w n pc i nL la (st.map fl_c) (fl_H m) = some (pc', la', st'.map fl_c, fl_H m') ∧ fl_LR lv' la' := by
  cases st with
  | nil => cases h
  | cons v r =>
    unfold fl_so at h
    dsimp only at h
    split at h
    · cases h
    · rename_i u hu
      obtain ⟨e1, -⟩ := fl_ld_v hu
      simp only [am_so, List.map_cons, e1, fl_cat_c]
      split at h
      · rename_i hc
        split at h
        · rename_i hi
          cases h
          rw [if_pos hc, if_pos hi]
          exact ⟨_, rfl, hl.s2 hc⟩
        · cases h
      · rename_i hc
        split at h
        · rename_i hi
          cases h
          rw [if_neg hc, if_pos hi]
          exact ⟨_, rfl, hl.s1 hc⟩
        · cases h
theorem fl_pu_c {n pc w i : Nat} {lv lv' : fl_L} {st st' : List fl_V} {m m' : fl_M} {pc' : Nat} {la : am_L} (hl : fl_LR lv la) (h : fl_pu n pc lv st m (fl_ld w lv[i]?) = some (pc', lv', st', m')) : ∃ la', am_pu n pc la (st.map fl_c) (fl_H m) (am_ld w (am_lk la i)) = some (pc', la', st'.map fl_c, fl_H m') ∧ fl_LR lv' la' := by
  cases hv : fl_ld w lv[i]? with
  | none => rw [hv] at h; cases h
  | some v =>
    rw [hv] at h
    cases h
    rw [fl_ld_c hl hv]
    exact ⟨la, rfl, hl⟩
theorem fl_br_c {b : Bool} {pc pc' : Nat} {off : Int} {lv lv' : fl_L} {r st' : List fl_V} {m m' : fl_M} {la : am_L} (hl : fl_LR lv la) (h : fl_br b pc off lv r m = some (pc', lv', st', m')) : ∃ la', am_br b pc off la (r.map fl_c) (fl_H m) = some (pc', la', st'.map fl_c, fl_H m') ∧ fl_LR lv' la' := by
  unfold fl_br at h
  unfold am_br
  cases ht : am_tg pc off with
  | none => rw [ht] at h; cases h
  | some t =>
    rw [ht] at h
    dsimp only at h ⊢
    cases b <;> cases h <;> exact ⟨la, rfl, hl⟩
theorem fl_go_c {pc pc' : Nat} {off : Int} {lv lv' : fl_L} {r st' : List fl_V} {m m' : fl_M} {la : am_L} (hl : fl_LR lv la) (h : fl_go pc off lv r m = some (pc', lv', st', m')) : ∃ la', am_go pc off la (r.map fl_c) (fl_H m) = some (pc', la', st'.map fl_c, fl_H m') ∧ fl_LR lv' la' := by
  unfold fl_go at h
  unfold am_go
  cases ht : am_tg pc off with
  | none => rw [ht] at h; cases h
  | some t =>
    rw [ht] at h
    cases h
    exact ⟨la, rfl, hl⟩
theorem fl_okr {h τ p : Nat} (hv : fl_ok h (.inr (.inr (.inl (τ, p))))) : fk_K p = τ ∧ p < fl_N h := hv
theorem fl_gf_c {P : am_Pg} {own idx pc pc' : Nat} {lv lv' : fl_L} {st st' : List fl_V} {m m' : fl_M} {la : am_L} (hok : ∀ v ∈ st, fl_ok m.2.2 v) (hl : fl_LR lv la) (h : fl_gf P own idx pc lv st m = some (pc', lv', st', m')) : ∃ la', am_gf P own idx pc la (st.map fl_c) (fl_H m) = some (pc', la', st'.map fl_c, fl_H m') ∧ fl_LR lv' la' := by
  unfold fl_gf at h
  split at h
  · rename_i τ p r
    obtain ⟨hk, hp⟩ := fl_okr (hok (.inr (.inr (.inl (τ, p)))) (by simp))
    split at h
    · rename_i ci k cj fs e1 e2
      split at h
      · rename_i hc
        subst hc
        show ∃ la', am_gf P own idx pc la (.ref p :: List.map fl_c _) (fl_H m) = _ ∧ _
        unfold am_gf
        dsimp only
        rw [fl_get hp, hk, e1, e2]
        dsimp only [fl_ob]
        rw [if_pos rfl]
        split at h
        · rename_i ef
          cases h
          exact ⟨la, by simp [List.getElem?_mapIdx, ef, am_pu, fl_fv, fl_c], hl⟩
        · rename_i q ef
          cases h
          exact ⟨la, by simp [List.getElem?_mapIdx, ef, am_pu, fl_fv, fl_c], hl⟩
        · cases h
      · cases h
    · cases h
  · cases h
theorem fl_pf_c {P : am_Pg} {mi own idx pc pc' : Nat} {lv lv' : fl_L} {st st' : List fl_V} {m m' : fl_M} {la : am_L} (hok : ∀ v ∈ st, fl_ok m.2.2 v) (hl : fl_LR lv la) (h : fl_pf P mi own idx pc lv st m = some (pc', lv', st', m')) : ∃ la', am_pf P mi own idx pc la (st.map fl_c) (fl_H m) = some (pc', la', st'.map fl_c, fl_H m') ∧ fl_LR lv' la' := by
  unfold fl_pf at h
  split at h
  · rename_i x τ p r
    obtain ⟨hk, hp⟩ := fl_okr (hok (.inr (.inr (.inl (τ, p)))) (by simp))
    split at h
    · rename_i ci k cj fs e1 e2
      split at h
      · rename_i ef
        obtain ⟨hb, h⟩ := am_bif h
        cases h
        show ∃ la', am_pf P mi own idx pc la (.int x :: .ref p :: List.map fl_c _) (fl_H m) = _ ∧ _
        unfold am_pf
        dsimp only
        have hlen : k < fs.length := (List.getElem?_eq_some_iff.mp ef).1
        simp only [Bool.and_eq_true, decide_eq_true_eq] at hb
        obtain ⟨h1, h2, h3⟩ := hb
        have hfs := fl_fset (p := p) (w := m.1 p) (x := x) ef
        rw [fl_get hp, hk, e1, e2]
        dsimp only [fl_ob]
        refine ⟨la, ?_, hl⟩
        have hb' : (decide (ci = cj) && (decide (k < (fs.mapIdx (fl_fv p (m.1 p))).length) && (am_ft (am_fty P ci k) (.int x) && (!am_fin P ci k || (am_ini P mi && decide (own = ci)))))) = true := by
          simp only [Bool.and_eq_true, decide_eq_true_eq, List.length_mapIdx]
          exact ⟨h1, hlen, h2, by simpa using h3⟩
        rw [hb', hfs]
        dsimp only [cond_true]
        have := fl_setR (m := m) (w := upd (m.1 p) k x) hp
        rw [hk, e2] at this
        dsimp only [fl_ob] at this
        rw [this, fl_up_row]
      · cases h
    · cases h
  · cases h
theorem fl_ob_0 {n p : Nat} {z : Nat × Nat × Nat} {w : Nat → Int32} {l : Nat → Int64} : fl_ob (.inr (0, n, z)) p w l = .inl (0, n, .inl w) := rfl
theorem fl_ob_1 {n p : Nat} {z : Nat × Nat × Nat} {w : Nat → Int32} {l : Nat → Int64} : fl_ob (.inr (1, n, z)) p w l = .inl (1, n, .inr (.inl l)) := rfl
theorem fl_ob_2 {t n p τ b m : Nat} {w : Nat → Int32} {l : Nat → Int64} : fl_ob (.inr (t + 2, n, τ, b, m)) p w l = .inl (t + 2, n, .inr (.inr (.inr (.inr (fun i => if i < n then (if m = 0 then (if w i = 0 then none else some (w i).toNatClampNeg) else some (p + b + m * i)) else none))))) := rfl
theorem fl_ald_c {P : am_Pg} {pc pc' : Nat} {lv lv' : fl_L} {st st' : List fl_V} {m m' : fl_M} {la : am_L} (hok : ∀ v ∈ st, fl_ok m.2.2 v) (hl : fl_LR lv la) (h : fl_ald P pc lv st m = some (pc', lv', st', m')) : ∃ la', am_ald P pc la (st.map fl_c) (fl_H m) = some (pc', la', st'.map fl_c, fl_H m') ∧ fl_LR lv' la' := by
  unfold fl_ald at h
  split at h
  · rename_i i τ p r
    obtain ⟨hk, hp⟩ := fl_okr (hok (.inr (.inr (.inl (τ, p)))) (by simp))
    split at h
    · rename_i n z e2
      obtain ⟨hb, h⟩ := am_bif h
      cases h
      show ∃ la', am_ald P pc la (.int i :: .ref p :: List.map fl_c _) (fl_H m) = _ ∧ _
      unfold am_ald
      dsimp only
      rw [fl_get hp, hk, e2, fl_ob_0]
      refine ⟨la, ?_, hl⟩
      show (bif am_in i n then _ else none) = _
      rw [hb]
      rfl
    · cases h
  · rename_i i c r
    split at h
    · rename_i n f e2
      obtain ⟨hb, h⟩ := am_bif h
      cases h
      show ∃ la', am_ald P pc la (.int i :: .retAddr c :: List.map fl_c _) (fl_H m) = _ ∧ _
      unfold am_ald
      dsimp only
      rw [e2]
      dsimp only
      refine ⟨la, ?_, hl⟩
      show (bif am_in i n then _ else none) = _
      rw [hb]
      rfl
    · cases h
  · cases h
theorem fl_ast_c {pc pc' : Nat} {lv lv' : fl_L} {st st' : List fl_V} {m m' : fl_M} {la : am_L} (hok : ∀ v ∈ st, fl_ok m.2.2 v) (hl : fl_LR lv la) (h : fl_ast pc lv st m = some (pc', lv', st', m')) : ∃ la', am_ast pc la (st.map fl_c) (fl_H m) = some (pc', la', st'.map fl_c, fl_H m') ∧ fl_LR lv' la' := by
  unfold fl_ast at h
  split at h
  · rename_i x i τ p r
    obtain ⟨hk, hp⟩ := fl_okr (hok (.inr (.inr (.inl (τ, p)))) (by simp))
    split at h
    · rename_i n z e2
      obtain ⟨hb, h⟩ := am_bif h
      cases h
      show ∃ la', am_ast pc la (.int x :: .int i :: .ref p :: List.map fl_c _) (fl_H m) = _ ∧ _
      unfold am_ast
      dsimp only
      rw [fl_get hp, hk, e2, fl_ob_0]
      refine ⟨la, ?_, hl⟩
      show (bif am_in i n then some (pc + 1, la, List.map fl_c _, ((fl_H m).1.set p (.inl (0, n, .inl (upd (m.1 p) i.toNatClampNeg x))), (fl_H m).2)) else none) = _
      rw [hb]
      dsimp only [cond_true]
      have := fl_setR (m := m) (w := upd (m.1 p) i.toNatClampNeg x) hp
      rw [hk, e2, fl_ob_0] at this
      rw [this, fl_up_row]
    · cases h
  · cases h
theorem fl_lald_c {pc pc' : Nat} {lv lv' : fl_L} {st st' : List fl_V} {m m' : fl_M} {la : am_L} (hok : ∀ v ∈ st, fl_ok m.2.2 v) (hl : fl_LR lv la) (h : fl_lald pc lv st m = some (pc', lv', st', m')) : ∃ la', am_lald pc la (st.map fl_c) (fl_H m) = some (pc', la', st'.map fl_c, fl_H m') ∧ fl_LR lv' la' := by
  unfold fl_lald at h
  split at h
  · rename_i i τ p r
    obtain ⟨hk, hp⟩ := fl_okr (hok (.inr (.inr (.inl (τ, p)))) (by simp))
    split at h
    · rename_i n z e2
      obtain ⟨hb, h⟩ := am_bif h
      cases h
      show ∃ la', am_lald pc la (.int i :: .ref p :: List.map fl_c _) (fl_H m) = _ ∧ _
      unfold am_lald
      dsimp only
      rw [fl_get hp, hk, e2, fl_ob_1]
      refine ⟨la, ?_, hl⟩
      show (bif am_in i n then _ else none) = _
      rw [hb]
      rfl
    · cases h
  · cases h
theorem fl_last_c {pc pc' : Nat} {lv lv' : fl_L} {st st' : List fl_V} {m m' : fl_M} {la : am_L} (hok : ∀ v ∈ st, fl_ok m.2.2 v) (hl : fl_LR lv la) (h : fl_last pc lv st m = some (pc', lv', st', m')) : ∃ la', am_last pc la (st.map fl_c) (fl_H m) = some (pc', la', st'.map fl_c, fl_H m') ∧ fl_LR lv' la' := by
  unfold fl_last at h
  split at h
  · rename_i x i τ p r
    obtain ⟨hk, hp⟩ := fl_okr (hok (.inr (.inr (.inl (τ, p)))) (by simp))
    split at h
    · rename_i n z e2
      obtain ⟨hb, h⟩ := am_bif h
      cases h
      show ∃ la', am_last pc la (.long x :: .int i :: .ref p :: List.map fl_c _) (fl_H m) = _ ∧ _
      unfold am_last
      dsimp only
      rw [fl_get hp, hk, e2, fl_ob_1]
      refine ⟨la, ?_, hl⟩
      show (bif am_in i n then some (pc + 1, la, List.map fl_c _, ((fl_H m).1.set p (.inl (1, n, .inr (.inl (vp_updL (m.2.1 p) i.toNatClampNeg x)))), (fl_H m).2)) else none) = _
      rw [hb]
      dsimp only [cond_true]
      have := fl_setL (m := m) (l := vp_updL (m.2.1 p) i.toNatClampNeg x) hp
      rw [hk, e2, fl_ob_1] at this
      rw [this]
      have e : (fun q j => if q = p then vp_updL (m.2.1 p) i.toNatClampNeg x j else m.2.1 q j) = fl_upL m.2.1 p i.toNatClampNeg x := by
        funext q j
        unfold fl_upL vp_updL
        by_cases h1 : q = p <;> by_cases h2 : j = i.toNatClampNeg <;> simp [h1, h2]
      rw [e]
    · cases h
  · cases h
theorem am_in_lt {i : Int32} {n : Nat} (h : am_in i n = true) : i.toNatClampNeg < n := by
  unfold am_in at h
  simp only [Bool.and_eq_true, decide_eq_true_eq] at h
  exact h.2
theorem fl_qald_c {pc pc' : Nat} {lv lv' : fl_L} {st st' : List fl_V} {m m' : fl_M} {la : am_L} (hok : ∀ v ∈ st, fl_ok m.2.2 v) (hl : fl_LR lv la) (h : fl_qald pc lv st m = some (pc', lv', st', m')) : ∃ la', am_qald pc la (st.map fl_c) (fl_H m) = some (pc', la', st'.map fl_c, fl_H m') ∧ fl_LR lv' la' := by
  unfold fl_qald at h
  split at h
  · rename_i i τ p r
    obtain ⟨hk, hp⟩ := fl_okr (hok (.inr (.inr (.inl (τ, p)))) (by simp))
    split at h
    · rename_i t n τ' b d e2
      obtain ⟨hb, h⟩ := am_bif h
      cases h
      show ∃ la', am_qald pc la (.int i :: .ref p :: List.map fl_c _) (fl_H m) = _ ∧ _
      unfold am_qald
      dsimp only
      simp only [Bool.and_eq_true, decide_eq_true_eq] at hb
      obtain ⟨h1, h2, h3⟩ := hb
      rw [fl_get hp, hk, e2]
      have hlt := am_in_lt h3
      obtain ⟨t', rfl⟩ : ∃ t', t = t' + 2 := ⟨t - 2, by omega⟩
      rw [fl_ob_2]
      dsimp only
      have hb' : (decide (2 ≤ t' + 2 ∧ t' + 2 < 5) && am_in i n) = true := by simp only [Bool.and_eq_true, decide_eq_true_eq]; exact ⟨h1, h3⟩
      rw [hb', if_pos hlt, if_neg h2]
      exact ⟨la, rfl, hl⟩
    · cases h
  · cases h
theorem fl_len_c {P : am_Pg} {pc pc' : Nat} {lv lv' : fl_L} {st st' : List fl_V} {m m' : fl_M} {la : am_L} (hok : ∀ v ∈ st, fl_ok m.2.2 v) (hl : fl_LR lv la) (h : fl_len P pc lv st m = some (pc', lv', st', m')) : ∃ la', am_len P pc la (st.map fl_c) (fl_H m) = some (pc', la', st'.map fl_c, fl_H m') ∧ fl_LR lv' la' := by
  unfold fl_len at h
  split at h
  · rename_i τ p r
    obtain ⟨hk, hp⟩ := fl_okr (hok (.inr (.inr (.inl (τ, p)))) (by simp))
    split at h
    · rename_i t n z e2
      split at h
      · rename_i ht
        cases h
        show ∃ la', am_len P pc la (.ref p :: List.map fl_c _) (fl_H m) = _ ∧ _
        unfold am_len
        dsimp only
        rw [fl_get hp, hk, e2]
        rcases (show t = 0 ∨ t = 1 ∨ 2 ≤ t by omega) with rfl | rfl | h2
        · exact ⟨la, rfl, hl⟩
        · exact ⟨la, rfl, hl⟩
        · obtain ⟨t', rfl⟩ : ∃ t', t = t' + 2 := ⟨t - 2, by omega⟩
          obtain ⟨z1, z2, z3⟩ := z
          rw [fl_ob_2]
          dsimp only
          rw [if_pos ht]
          exact ⟨la, rfl, hl⟩
      · cases h
    · cases h
  · rename_i c r
    split at h
    · rename_i n f e2
      cases h
      show ∃ la', am_len P pc la (.retAddr c :: List.map fl_c _) (fl_H m) = _ ∧ _
      unfold am_len
      dsimp only
      rw [e2]
      exact ⟨la, rfl, hl⟩
    · cases h
  · cases h
theorem fl_sum_c (st : List fl_V) : am_sum (st.map fl_c) = fl_sum st := by
  unfold am_sum fl_sum
  rw [List.map_map]
  congr 1
  exact List.map_congr_left (fun v _ => fl_cat_c v)
theorem fl_n1_c {pc pc' : Nat} {lv lv' : fl_L} {st st' : List fl_V} {m m' : fl_M} {la : am_L} (hok : ∀ v ∈ st, fl_ok m.2.2 v) (hl : fl_LR lv la) (h : fl_n1 pc lv st m = some (pc', lv', st', m')) : ∃ la', am_n1 pc la (st.map fl_c) (fl_H m) = some (pc', la', st'.map fl_c, fl_H m') ∧ fl_LR lv' la' := by
  unfold fl_n1 at h
  split at h
  · rename_i n dp τb b sp τa a r
    obtain ⟨hkb, hpb⟩ := fl_okr (hok (.inr (.inr (.inl (τb, b)))) (by simp))
    obtain ⟨hka, hpa⟩ := fl_okr (hok (.inr (.inr (.inl (τa, a)))) (by simp))
    split at h
    · rename_i n0 z0 n1 z1 e1 e2
      obtain ⟨hb, h⟩ := am_bif h
      cases h
      show ∃ la', am_n1 pc la (.int n :: .int dp :: .ref b :: .int sp :: .ref a :: List.map fl_c _) (fl_H m) = _ ∧ _
      unfold am_n1
      dsimp only
      rw [fl_get hpa, fl_get hpb, hka, hkb, e1, e2, fl_ob_0, fl_ob_0]
      rw [fl_sum_c]
      refine ⟨la, ?_, hl⟩
      show (bif (decide (fl_sum _ ≤ 8) && (!(decide (sp < 0)) && (!(decide (dp < 0)) && (!(decide (n < 0)) && (decide (sp.toNatClampNeg + n.toNatClampNeg ≤ n0) && decide (dp.toNatClampNeg + n.toNatClampNeg ≤ n1)))))) then some (pc + 3, la, List.map fl_c _, ((fl_H m).1.set b (.inl (0, n1, .inl (va_cpy (m.1 a) (m.1 b) sp.toNatClampNeg dp.toNatClampNeg n.toNatClampNeg))), (fl_H m).2)) else none) = _
      rw [hb]
      dsimp only [cond_true]
      have := fl_setR (m := m) (w := va_cpy (m.1 a) (m.1 b) sp.toNatClampNeg dp.toNatClampNeg n.toNatClampNeg) hpb
      rw [hkb, e2, fl_ob_0] at this
      rw [this]
    · cases h
  · cases h

/-- THE TIE: a step over flat memory is a step of the pure machine -/
theorem fl_tie {P : am_Pg} {mi pc pc' : Nat} {ins : Instr} {lv lv' : fl_L} {st st' : List fl_V} {m m' : fl_M} {la : am_L} (hok : ∀ v ∈ st, fl_ok m.2.2 v) (hl : fl_LR lv la) (h : fl_st P mi ins pc lv st m = some (pc', lv', st', m')) : am_rt P mi ins (st.map fl_c) = none ∧ ∃ la', am_st P mi ins pc la (st.map fl_c) (fl_H m) = some (pc', la', st'.map fl_c, fl_H m') ∧ fl_LR lv' la' := by
  have hI : ∀ g : Int32 → Int32 → Int32, fl_I pc lv st m g = some (pc', lv', st', m') → ∃ la', am_2 pc la (st.map fl_c) (fl_H m) (am_fI g) = some (pc', la', st'.map fl_c, fl_H m') ∧ fl_LR lv' la' := by
    intro g h
    unfold fl_I at h
    split at h
    · cases h; exact ⟨la, rfl, hl⟩
    · cases h
  have hID : ∀ g : Int32 → Int32 → Int32, fl_ID pc lv st m g = some (pc', lv', st', m') → ∃ la', am_2 pc la (st.map fl_c) (fl_H m) (am_fID g) = some (pc', la', st'.map fl_c, fl_H m') ∧ fl_LR lv' la' := by
    intro g h
    unfold fl_ID at h
    split at h
    · split at h
      · cases h
      · rename_i hy
        cases h
        refine ⟨la, ?_, hl⟩
        simp only [List.map_cons, fl_c, am_2, am_fID]
        rw [if_neg hy]
    · cases h
  have hJ : ∀ g : Int64 → Int64 → Int64, fl_J pc lv st m g = some (pc', lv', st', m') → ∃ la', am_2 pc la (st.map fl_c) (fl_H m) (am_fL g) = some (pc', la', st'.map fl_c, fl_H m') ∧ fl_LR lv' la' := by
    intro g h
    unfold fl_J at h
    split at h
    · cases h; exact ⟨la, rfl, hl⟩
    · cases h
  have hJD : ∀ g : Int64 → Int64 → Int64, fl_JD pc lv st m g = some (pc', lv', st', m') → ∃ la', am_2 pc la (st.map fl_c) (fl_H m) (am_fLD g) = some (pc', la', st'.map fl_c, fl_H m') ∧ fl_LR lv' la' := by
    intro g h
    unfold fl_JD at h
    split at h
    · split at h
      · cases h
      · rename_i hy
        cases h
        refine ⟨la, ?_, hl⟩
        simp only [List.map_cons, fl_c, am_2, am_fLD]
        rw [if_neg hy]
    · cases h
  have hJI : ∀ g : Int64 → Int32 → Int64, fl_JI pc lv st m g = some (pc', lv', st', m') → ∃ la', am_2 pc la (st.map fl_c) (fl_H m) (am_fLI g) = some (pc', la', st'.map fl_c, fl_H m') ∧ fl_LR lv' la' := by
    intro g h
    unfold fl_JI at h
    split at h
    · cases h; exact ⟨la, rfl, hl⟩
    · cases h
  cases ins
  all_goals first
    | (cases h; done)
    | (cases h; exact ⟨rfl, la, rfl, hl⟩)
    | exact ⟨rfl, hI _ h⟩
    | exact ⟨rfl, hID _ h⟩
    | exact ⟨rfl, hJ _ h⟩
    | exact ⟨rfl, hJD _ h⟩
    | exact ⟨rfl, hJI _ h⟩
    | exact ⟨rfl, fl_pu_c hl h⟩
    | exact ⟨rfl, fl_so_c hl h⟩
    | exact ⟨rfl, fl_go_c hl h⟩
    | exact ⟨rfl, fl_gf_c hok hl h⟩
    | exact ⟨rfl, fl_pf_c hok hl h⟩
    | exact ⟨rfl, fl_ald_c hok hl h⟩
    | exact ⟨rfl, fl_ast_c hok hl h⟩
    | exact ⟨rfl, fl_lald_c hok hl h⟩
    | exact ⟨rfl, fl_last_c hok hl h⟩
    | exact ⟨rfl, fl_qald_c hok hl h⟩
    | exact ⟨rfl, fl_len_c hok hl h⟩
    | (dsimp only [fl_st] at h; split at h <;> first | (cases h; done) | (cases h; exact ⟨rfl, la, rfl, hl⟩); done)
    | (dsimp only [fl_st] at h; split at h <;> first | (cases h; done) | exact ⟨rfl, fl_br_c hl h⟩; done)
    | (dsimp only [fl_st] at h; split at h <;> first | (cases h; done) | (rename_i e; cases h; refine ⟨rfl, la, ?_, hl⟩; dsimp only [am_st]; rw [e]; done) | (rename_i e; cases h; refine ⟨rfl, la, ?_, hl⟩; dsimp only [am_st]; rw [e]; rfl); done)
    | (dsimp only [fl_st] at h; split at h <;> first | (cases h; done) | (split at h <;> first | (cases h; done) | (rename_i hc; cases h; refine ⟨rfl, la, ?_, hl⟩; dsimp only [am_st, List.map_cons]; simp only [fl_cat_c]; rw [if_pos hc])); done)
    | skip
  case iinc k n =>
    dsimp only [fl_st] at h
    split at h
    · rename_i x hx
      split at h
      · rename_i hk
        cases h
        refine ⟨rfl, _, ?_, fl_LR.s1 hl (show (1 : Nat) ≠ 2 by decide)⟩
        dsimp only [am_st]
        rw [hl _ _ hx]
        dsimp only [fl_c]
        rw [if_pos hk]
      · cases h
    · cases h
  case tableswitch d lo hi offs =>
    dsimp only [fl_st] at h
    split at h
    · rename_i x r
      obtain ⟨hb, h⟩ := am_bif h
      refine ⟨rfl, ?_⟩
      obtain ⟨la', h1, h2⟩ := fl_go_c hl h
      refine ⟨la', ?_, h2⟩
      show (bif am_swk x lo hi offs then am_go pc (am_sw x d lo hi offs) la (List.map fl_c r) (fl_H m) else none) = _
      rw [hb]
      exact h1
    · cases h
  case invokestatic k =>
    dsimp only [fl_st] at h
    split at h
    · rename_i e
      refine ⟨rfl, ?_⟩
      dsimp only [am_st]
      rw [e]
      exact fl_n1_c hok hl h
    · cases h
  case dup =>
    dsimp only [fl_st] at h
    split at h
    · split at h
      · rename_i v r hc
        cases h
        refine ⟨rfl, la, ?_, hl⟩
        show (if (fl_c v).category = 1 then _ else none) = _
        rw [fl_cat_c, if_pos hc]
        rfl
      · cases h
    · cases h
  case pop =>
    dsimp only [fl_st] at h
    split at h
    · split at h
      · rename_i v r hc
        cases h
        refine ⟨rfl, la, ?_, hl⟩
        show (if (fl_c v).category = 1 then _ else none) = _
        rw [fl_cat_c, if_pos hc]
      · cases h
    · cases h
  case pop2 =>
    dsimp only [fl_st] at h
    split at h
    · split at h
      · rename_i v r hc
        cases h
        refine ⟨rfl, la, ?_, hl⟩
        show (if (fl_c v).category = 2 then _ else none) = _
        rw [fl_cat_c, if_pos hc]
      · cases h
    · cases h
  case dup2 =>
    dsimp only [fl_st] at h
    split at h
    · split at h
      · rename_i v w r hc
        cases h
        refine ⟨rfl, la, ?_, hl⟩
        show (if (fl_c v).category = 1 ∧ (fl_c w).category = 1 then _ else none) = _
        rw [fl_cat_c, fl_cat_c, if_pos hc]
        rfl
      · cases h
    · cases h

end

/-! 53.flto.lean.txt -/
section
/-! ===== what a run over flat memory comes to ===== -/
/-- an answer -/
def fl_rt (P : am_Pg) (mi : Nat) (ins : Instr) (st : List fl_V) : Option (Option fl_V) := match ins, st with
  | .return_, [] => match am_ret P mi with
    | none => some none
    | some _ => none
  | .ireturn, [.inl v] => match am_ret P mi with
    | some .int => some (some (.inl v))
    | some .boolean => if v = 0 ∨ v = 1 then some (some (.inl v)) else none
    | _ => none
  | .lreturn, [.inr (.inl v)] => match am_ret P mi with
    | some .long => some (some (.inr (.inl v)))
    | _ => none
  | _, _ => none
theorem fl_rt_c {P : am_Pg} {mi : Nat} {ins : Instr} {st : List fl_V} {v : Option fl_V} (h : fl_rt P mi ins st = some v) : am_rt P mi ins (st.map fl_c) = some (v.map fl_c) := by
  unfold fl_rt at h
  split at h
  · split at h
    · rename_i e
      cases h
      show (match am_ret P mi with | none => some none | some _ => none) = _
      rw [e]
      rfl
    · cases h
  · rename_i x
    split at h
    · rename_i e
      cases h
      show (match am_ret P mi with | some .int => some (some (Value.int x)) | some .boolean => if x = 0 ∨ x = 1 then some (some (.int x)) else none | _ => none) = _
      rw [e]
      rfl
    · rename_i e
      split at h
      · rename_i hx
        cases h
        show (match am_ret P mi with | some .int => some (some (Value.int x)) | some .boolean => if x = 0 ∨ x = 1 then some (some (.int x)) else none | _ => none) = _
        rw [e]
        show (if x = 0 ∨ x = 1 then some (some (Value.int x)) else none) = _
        rw [if_pos hx]
        rfl
      · cases h
    · cases h
  · rename_i x
    split at h
    · rename_i e
      cases h
      show (match am_ret P mi with | some .long => some (some (Value.long x)) | _ => none) = _
      rw [e]
      rfl
    · cases h
  · cases h
/-- a call's stack -/
def fl_rc (P : am_Pg) (ins : Instr) (mj n : Nat) (st : List fl_V) : Bool :=
  decide (n ≤ st.length) && (decide (fl_sum (st.drop n) ≤ 8 ∧ fl_sum (st.take n) ≤ am_mxl P mj) && (match ins with
  | .invokestatic _ => true
  | .invokespecial _ => (match (st.take n).reverse with
    | .inr (.inr (.inl _)) :: _ => true
    | _ => false)
  | .invokevirtual _ => (match (st.take n).reverse with
    | .inr (.inr (.inl q)) :: _ => (match fk_kd q.1 with
      | .inl (cj, _) => decide (cj = am_own P mj)
      | _ => false)
    | _ => false)
  | _ => false))
theorem fl_rc_c {P : am_Pg} {mi : Nat} {ins : Instr} {mj n : Nat} {st : List fl_V} {m : fl_M} (hok : ∀ v ∈ st, fl_ok m.2.2 v) (h : fl_rc P ins mj n st = true) : am_rc P mi ins mj n (st.map fl_c) (fl_H m) = true := by
  unfold fl_rc at h
  simp only [Bool.and_eq_true, decide_eq_true_eq] at h
  obtain ⟨h1, ⟨h2, h3⟩, h4⟩ := h
  unfold am_rc
  have e1 : (st.map fl_c).drop n = (st.drop n).map fl_c := by rw [List.map_drop]
  have e2 : (st.map fl_c).take n = (st.take n).map fl_c := by rw [List.map_take]
  rw [e1, e2, ← List.map_reverse, fl_sum_c, fl_sum_c, List.length_map]
  simp only [Bool.and_eq_true, decide_eq_true_eq]
  refine ⟨h1, ⟨h2, h3⟩, ?_⟩
  split at h4
  · rfl
  · split at h4
    · rename_i q r e
      rw [e]
      rfl
    · cases h4
  · split at h4
    · rename_i q r e
      obtain ⟨τ, p⟩ := q
      have hm : (Sum.inr (Sum.inr (Sum.inl (τ, p))) : fl_V) ∈ st := by
        have : (Sum.inr (Sum.inr (Sum.inl (τ, p))) : fl_V) ∈ (st.take n).reverse := by rw [e]; exact List.mem_cons_self
        exact List.mem_of_mem_take (List.mem_reverse.mp this)
      obtain ⟨hk, hp⟩ := fl_okr (hok _ hm)
      split at h4
      · rename_i cj fs ek
        rw [e]
        show am_rv P mj (Value.ref p :: _) (fl_H m) = true
        unfold am_rv
        dsimp only
        dsimp only at ek
        rw [fl_get hp, hk, ek]
        exact h4
      · cases h4
    · cases h4
  · cases h4
def fl_ar : List fl_V → fl_L
  | [] => []
  | v :: r => if fl_cat v = 2 then some v :: none :: fl_ar r else some v :: fl_ar r
/-- a method's locals at its start -/
def fl_args (n : Nat) (as_ : List fl_V) : fl_L := fl_ar as_ ++ List.replicate (n - (fl_ar as_).length) none
theorem fl_ar_lk {as_ : List fl_V} {i j : Nat} {w : fl_V} (h : (fl_ar as_)[j]? = some (some w)) : am_lk (lv_args i (as_.map fl_c)) (i + j) = some (fl_c w) := by
  induction as_ generalizing i j with
  | nil => simp [fl_ar] at h
  | cons v r ih =>
    unfold fl_ar at h
    rw [List.map_cons]
    show am_lk ((i, fl_c v) :: lv_args (if (fl_c v).category = 2 then i + 2 else i + 1) (r.map fl_c)) (i + j) = _
    rw [fl_cat_c]
    split at h
    · rename_i hc
      rw [if_pos hc]
      unfold am_lk
      match j, h with
      | 0, h =>
        have h : some (some v) = some (some w) := h
        cases h
        rw [if_pos (show i = i + 0 from rfl)]
      | 1, h =>
        have h : some none = some (some w) := h
        cases h
      | k + 2, h =>
        have h : (fl_ar r)[k]? = some (some w) := h
        rw [if_neg (by show i ≠ _; omega)]
        have := ih (i := i + 2) h
        rw [show i + (k + 2) = i + 2 + k by omega]
        exact this
    · rename_i hc
      rw [if_neg hc]
      unfold am_lk
      match j, h with
      | 0, h =>
        have h : some (some v) = some (some w) := h
        cases h
        rw [if_pos (show i = i + 0 from rfl)]
      | k + 1, h =>
        have h : (fl_ar r)[k]? = some (some w) := h
        rw [if_neg (by show i ≠ _; omega)]
        have := ih (i := i + 1) h
        rw [show i + (k + 1) = i + 1 + k by omega]
        exact this
theorem fl_args_LR (n : Nat) (as_ : List fl_V) : fl_LR (fl_args n as_) (lv_args 0 (as_.map fl_c)) := by
  intro j w h
  unfold fl_args at h
  by_cases hj : j < (fl_ar as_).length
  · rw [List.getElem?_append_left hj] at h
    have := fl_ar_lk (i := 0) h
    rw [Nat.zero_add] at this
    exact this
  · rw [List.getElem?_append_right (by omega), List.getElem?_replicate] at h
    split at h <;> cases h
/-- from here it comes to an end, with an answer and a memory of which Q holds -/
def fl_Tq (P : am_Pg) (mi pc : Nat) (lv : fl_L) (st : List fl_V) (m : fl_M) (Q : Option fl_V → fl_M → Prop) : Prop :=
  ∀ la : am_L, fl_LR lv la → am_To P mi pc la (st.map fl_c) (fl_H m) (fun v M => ∃ v' m', v = v'.map fl_c ∧ M = fl_H m' ∧ Q v' m')
section FLT
variable {P : am_Pg} {mi pc : Nat} {ins : Instr} {lv : fl_L} {st : List fl_V} {m : fl_M} {Q : Option fl_V → fl_M → Prop}
theorem fl_Tq.mono {Q' : Option fl_V → fl_M → Prop} (h : fl_Tq P mi pc lv st m Q) (hq : ∀ v m', Q v m' → Q' v m') : fl_Tq P mi pc lv st m Q' :=
  fun la hl => am_To.mono (h la hl) (fun v M ⟨v', m', h1, h2, h3⟩ => ⟨v', m', h1, h2, hq _ _ h3⟩)
theorem fl_Tq.stp {pc' : Nat} {lv' : fl_L} {st' : List fl_V} {m' : fl_M} (hc : am_code P mi pc = some ins) (hcl : am_cl P mi ins = none) (hok : ∀ v ∈ st, fl_ok m.2.2 v) (hst : fl_st P mi ins pc lv st m = some (pc', lv', st', m')) (k : fl_Tq P mi pc' lv' st' m' Q) : fl_Tq P mi pc lv st m Q := by
  intro la hl
  obtain ⟨h1, la', h2, h3⟩ := fl_tie hok hl hst
  exact am_To.stp hc hcl h1 h2 (k la' h3)
theorem fl_Tq.ret {v : Option fl_V} (hc : am_code P mi pc = some ins) (hcl : am_cl P mi ins = none) (hrt : fl_rt P mi ins st = some v) (k : Q v m) : fl_Tq P mi pc lv st m Q :=
  fun la hl => am_To.ret hc hcl (fl_rt_c hrt) ⟨v, m, rfl, rfl, k⟩
theorem fl_Tq.cal {mj n : Nat} (hc : am_code P mi pc = some ins) (hcl : am_cl P mi ins = some (mj, n)) (hok : ∀ v ∈ st, fl_ok m.2.2 v) (hrc : fl_rc P ins mj n st = true) (k : fl_Tq P mj 0 (fl_args (am_mxl P mj) (st.take n).reverse) [] m (fun v m' => fl_Tq P mi (pc + 3) lv (v.toList ++ st.drop n) m' Q)) : fl_Tq P mi pc lv st m Q := by
  intro la hl
  refine am_To.cal hc hcl (fl_rc_c hok hrc) ?_
  have e : ((st.map fl_c).take n).reverse = ((st.take n).reverse).map fl_c := by rw [List.map_reverse, List.map_take]
  rw [e]
  refine am_To.mono (k _ (fl_args_LR _ _)) ?_
  rintro v M ⟨v', m', rfl, rfl, h⟩
  have h := h la hl
  have e2 : (v'.map fl_c).toList ++ (st.map fl_c).drop n = (v'.toList ++ st.drop n).map fl_c := by
    rw [List.map_append, List.map_drop]
    cases v' <;> rfl
  rw [e2]
  exact h
end FLT

end

/-! 54.look.lean.txt -/
section
/-! ===== THE LOOKER: ranges of all words, run by the kernel over rows of data (printed by wip/gen); what it says is proved in 55 .. ===== -/
/-- an affine number: a constant, terms (factor, name) -/
abbrev at_A : Type := Int × List (Int × Nat)
def at_evl (ν : Nat → Int) : List (Int × Nat) → Int
  | [] => 0
  | t :: r => t.1 * ν t.2 + at_evl ν r
def at_ev (ν : Nat → Int) (a : at_A) : Int := a.1 + at_evl ν a.2
def at_ins (t : Int × Nat) : List (Int × Nat) → List (Int × Nat)
  | [] => [t]
  | q :: r => bif Nat.beq t.2 q.2 then (bif decide (t.1 + q.1 = 0) then r else (t.1 + q.1, q.2) :: r) else bif Nat.blt t.2 q.2 then t :: q :: r else q :: at_ins t r
def at_add (a b : at_A) : at_A := (a.1 + b.1, a.2.foldr at_ins b.2)
def at_mul (k : Int) (a : at_A) : at_A := bif decide (k = 0) then (0, []) else (k * a.1, a.2.map (fun t => (k * t.1, t.2)))
def at_sub (a b : at_A) : at_A := at_add (at_mul (-1) b) a
def at_c (k : Int) : at_A := (k, [])
def at_v (x : Nat) : at_A := (0, [(1, x)])
def at_eqT : List (Int × Nat) → List (Int × Nat) → Bool
  | [], [] => true
  | s :: p, t :: q => decide (s.1 = t.1) && (Nat.beq s.2 t.2 && at_eqT p q)
  | _, _ => false
def at_eq (a b : at_A) : Bool := decide (a.1 = b.1) && at_eqT a.2 b.2
/-- names' ranges, what is at most 0, what isn't 0 -/
abbrev at_P : Type := List (Int × Int) × (List at_A × List at_A)
def at_bd (sy : List (Int × Int)) (x : Nat) : Int × Int := sy.getD x (0, 0)
def at_los (sy : List (Int × Int)) : List (Int × Nat) → Int
  | [] => 0
  | t :: r => (bif decide (0 < t.1) then t.1 * (at_bd sy t.2).1 else t.1 * (at_bd sy t.2).2) + at_los sy r
def at_his (sy : List (Int × Int)) : List (Int × Nat) → Int
  | [] => 0
  | t :: r => (bif decide (0 < t.1) then t.1 * (at_bd sy t.2).2 else t.1 * (at_bd sy t.2).1) + at_his sy r
def at_lo (sy : List (Int × Int)) (a : at_A) : Int := a.1 + at_los sy a.2
def at_hi (sy : List (Int × Int)) (a : at_A) : Int := a.1 + at_his sy a.2
def at_gcd : List (Int × Nat) → Nat
  | [] => 0
  | t :: r => Nat.gcd t.1.natAbs (at_gcd r)
/-- the same sign, by its factors' common part -/
def at_gn (a : at_A) : at_A := bif Nat.ble (at_gcd a.2) 1 then a else (-((-a.1) / (at_gcd a.2 : Int)), a.2.map (fun t => (t.1 / (at_gcd a.2 : Int), t.2)))
def at_co (x : Nat) : List (Int × Nat) → Int
  | [] => 0
  | t :: r => bif Nat.beq t.2 x then t.1 else at_co x r
/-- is it at most 0? -/
def at_ent (P : at_P) : Nat → at_A → Bool
  | 0, a => decide (at_hi P.1 a ≤ 0)
  | d + 1, a => decide (at_hi P.1 a ≤ 0) || (match a.2 with
    | [] => false
    | _ => P.2.1.any (fun c => match c.2 with
      | [] => false
      | t :: _ => (fun ac : Int => decide (0 < ac * t.1) && (decide (ac % t.1 = 0) && at_ent P d (at_sub (at_gn a) (at_mul (ac / t.1) c)))) (at_co t.2 (at_gn a).2)))
def at_le (P : at_P) (a : at_A) : Bool := at_ent P 2 a
/-- lo <= a <= hi? -/
def at_inR (P : at_P) (a : at_A) (lo hi : Int) : Bool := (decide (lo ≤ at_lo P.1 a) || at_le P (at_sub (at_c lo) a)) && (decide (at_hi P.1 a ≤ hi) || at_le P (at_sub a (at_c hi)))
/-- bounds of names, where a is at most 0 (s0: the ranges before) -/
def at_ref (s0 : List (Int × Int)) (lo : Int) : List (Int × Nat) → List (Int × Int) → Option (List (Int × Int))
  | [], sy => some sy
  | t :: r, sy =>
    bif decide (0 < t.1) then
      (fun h : Int => bif decide ((at_bd sy t.2).1 ≤ h) then at_ref s0 lo r (sy.set t.2 ((at_bd sy t.2).1, h)) else none) (min (at_bd sy t.2).2 ((-(lo - t.1 * (at_bd s0 t.2).1)) / t.1))
    else
      (fun l : Int => bif decide (l ≤ (at_bd sy t.2).2) then at_ref s0 lo r (sy.set t.2 (l, (at_bd sy t.2).2)) else none) (max (at_bd sy t.2).1 (-((-(lo - t.1 * (at_bd s0 t.2).2)) / (-t.1))))
/-- a is at most 0: what is known then; none: that can't be -/
def at_as (P : at_P) (a : at_A) : Option at_P :=
  bif decide (at_hi P.1 a ≤ 0) then some P
  else bif decide (0 < at_lo P.1 a) then none
  else bif at_le P a then some P
  else bif at_le P (at_sub (at_c 1) a) then none
  else match (bif (at_gn a).2.all (fun t => !decide (t.1 = 0)) then at_ref P.1 (at_lo P.1 (at_gn a)) (at_gn a).2 P.1 else some P.1) with
    | some sy => some (sy, at_gn a :: P.2.1, P.2.2)
    | none => none
def at_new (P : at_P) (lo hi : Int) : at_P := (P.1 ++ [(lo, hi)], P.2)
def at_nv (P : at_P) : at_A := at_v P.1.length
/-- never 0? -/
def at_nz (P : at_P) (d : at_A) : Bool := decide (0 < at_lo P.1 d) || (decide (at_hi P.1 d < 0) || (Nat.blt 1 (at_gcd d.2) && !decide (d.1 % (at_gcd d.2 : Int) = 0)))

end

/-! 55.lookok.lean.txt -/
section
/-! ===== what 54 says holds ===== -/
theorem at_evl_ins (ν : Nat → Int) (t : Int × Nat) (l : List (Int × Nat)) : at_evl ν (at_ins t l) = t.1 * ν t.2 + at_evl ν l := by
  induction l with
  | nil => rfl
  | cons q r ih =>
    unfold at_ins
    cases h1 : Nat.beq t.2 q.2 with
    | true =>
      have e := Nat.eq_of_beq_eq_true h1
      cases h2 : decide (t.1 + q.1 = 0) with
      | true =>
        have e2 := of_decide_eq_true h2
        show at_evl ν r = t.1 * ν t.2 + (q.1 * ν q.2 + at_evl ν r)
        rw [e, ← Int.add_assoc, ← Int.add_mul, e2]
        omega
      | false =>
        show (t.1 + q.1) * ν q.2 + at_evl ν r = t.1 * ν t.2 + (q.1 * ν q.2 + at_evl ν r)
        rw [e, Int.add_mul]
        omega
    | false =>
      cases h2 : Nat.blt t.2 q.2 with
      | true => rfl
      | false =>
        show q.1 * ν q.2 + at_evl ν (at_ins t r) = t.1 * ν t.2 + (q.1 * ν q.2 + at_evl ν r)
        rw [ih]
        omega
theorem at_evl_foldr (ν : Nat → Int) (l r : List (Int × Nat)) : at_evl ν (l.foldr at_ins r) = at_evl ν l + at_evl ν r := by
  induction l with
  | nil => simp [at_evl]
  | cons t l ih =>
    rw [List.foldr_cons, at_evl_ins, ih]
    show _ = t.1 * ν t.2 + at_evl ν l + at_evl ν r
    omega
theorem at_ev_add (ν : Nat → Int) (a b : at_A) : at_ev ν (at_add a b) = at_ev ν a + at_ev ν b := by
  unfold at_ev at_add
  dsimp only
  rw [at_evl_foldr]
  omega
theorem at_evl_map (ν : Nat → Int) (k : Int) (l : List (Int × Nat)) : at_evl ν (l.map (fun t => (k * t.1, t.2))) = k * at_evl ν l := by
  induction l with
  | nil => simp [at_evl]
  | cons t l ih =>
    rw [List.map_cons]
    unfold at_evl
    rw [ih, Int.mul_add, Int.mul_assoc]
theorem at_ev_mul (ν : Nat → Int) (k : Int) (a : at_A) : at_ev ν (at_mul k a) = k * at_ev ν a := by
  unfold at_mul
  cases h : decide (k = 0) with
  | true =>
    have e := of_decide_eq_true h
    subst e
    show at_ev ν (0, []) = _
    simp [at_ev, at_evl]
  | false =>
    show k * a.1 + at_evl ν (a.2.map (fun t => (k * t.1, t.2))) = _
    rw [at_evl_map]
    unfold at_ev
    rw [Int.mul_add]
theorem at_ev_sub (ν : Nat → Int) (a b : at_A) : at_ev ν (at_sub a b) = at_ev ν a - at_ev ν b := by
  unfold at_sub
  rw [at_ev_add, at_ev_mul]
  omega
theorem at_ev_c (ν : Nat → Int) (k : Int) : at_ev ν (at_c k) = k := by
  simp [at_ev, at_c, at_evl]
theorem at_ev_v (ν : Nat → Int) (x : Nat) : at_ev ν (at_v x) = ν x := by
  simp [at_ev, at_v, at_evl]
theorem at_eqT_ok {p q : List (Int × Nat)} (h : at_eqT p q = true) : p = q := by
  induction p generalizing q with
  | nil => cases q with
    | nil => rfl
    | cons t q => cases h
  | cons s p ih => cases q with
    | nil => cases h
    | cons t q =>
      unfold at_eqT at h
      simp only [Bool.and_eq_true, decide_eq_true_eq] at h
      obtain ⟨h1, h2, h3⟩ := h
      have h2 := Nat.eq_of_beq_eq_true h2
      obtain ⟨a, b⟩ := s
      obtain ⟨c, d⟩ := t
      dsimp only at h1 h2
      rw [h1, h2, ih h3]
theorem at_eq_ok {a b : at_A} (h : at_eq a b = true) : a = b := by
  unfold at_eq at h
  simp only [Bool.and_eq_true, decide_eq_true_eq] at h
  exact Prod.ext h.1 (at_eqT_ok h.2)
/-- the names' ranges hold -/
def at_Rg (ν : Nat → Int) (sy : List (Int × Int)) : Prop := ∀ x, (at_bd sy x).1 ≤ ν x ∧ ν x ≤ (at_bd sy x).2
def at_GP (ν : Nat → Int) (P : at_P) : Prop := at_Rg ν P.1 ∧ (∀ c ∈ P.2.1, at_ev ν c ≤ 0) ∧ (∀ d ∈ P.2.2, at_ev ν d ≠ 0)
theorem at_los_le {ν : Nat → Int} {sy : List (Int × Int)} (h : at_Rg ν sy) (l : List (Int × Nat)) : at_los sy l ≤ at_evl ν l := by
  induction l with
  | nil => exact Int.le_refl _
  | cons t l ih =>
    unfold at_los at_evl
    obtain ⟨h1, h2⟩ := h t.2
    cases hc : decide (0 < t.1) with
    | true =>
      have hp : 0 ≤ t.1 := Int.le_of_lt (of_decide_eq_true hc)
      have := Int.mul_le_mul_of_nonneg_left h1 hp
      show t.1 * (at_bd sy t.2).1 + _ ≤ _
      omega
    | false =>
      have hp : t.1 ≤ 0 := Int.not_lt.mp (of_decide_eq_false hc)
      have := Int.mul_le_mul_of_nonpos_left hp h2
      show t.1 * (at_bd sy t.2).2 + _ ≤ _
      omega
theorem at_his_le {ν : Nat → Int} {sy : List (Int × Int)} (h : at_Rg ν sy) (l : List (Int × Nat)) : at_evl ν l ≤ at_his sy l := by
  induction l with
  | nil => exact Int.le_refl _
  | cons t l ih =>
    unfold at_his at_evl
    obtain ⟨h1, h2⟩ := h t.2
    cases hc : decide (0 < t.1) with
    | true =>
      have hp : 0 ≤ t.1 := Int.le_of_lt (of_decide_eq_true hc)
      have := Int.mul_le_mul_of_nonneg_left h2 hp
      show _ ≤ t.1 * (at_bd sy t.2).2 + _
      omega
    | false =>
      have hp : t.1 ≤ 0 := Int.not_lt.mp (of_decide_eq_false hc)
      have := Int.mul_le_mul_of_nonpos_left hp h1
      show _ ≤ t.1 * (at_bd sy t.2).1 + _
      omega
theorem at_lo_le {ν : Nat → Int} {sy : List (Int × Int)} (h : at_Rg ν sy) (a : at_A) : at_lo sy a ≤ at_ev ν a := by
  have := at_los_le h a.2
  unfold at_lo at_ev
  omega
theorem at_hi_le {ν : Nat → Int} {sy : List (Int × Int)} (h : at_Rg ν sy) (a : at_A) : at_ev ν a ≤ at_hi sy a := by
  have := at_his_le h a.2
  unfold at_hi at_ev
  omega
theorem at_gcd_dvd {l : List (Int × Nat)} {t : Int × Nat} (h : t ∈ l) : (at_gcd l : Int) ∣ t.1 := by
  induction l with
  | nil => cases h
  | cons q r ih =>
    unfold at_gcd
    rcases List.mem_cons.mp h with rfl | h
    · exact Int.ofNat_dvd_left.mpr (Nat.gcd_dvd_left _ _)
    · exact Int.dvd_trans (Int.natCast_dvd_natCast.mpr (Nat.gcd_dvd_right _ _)) (ih h)
theorem at_evl_div {ν : Nat → Int} {g : Int} {l : List (Int × Nat)} (h : ∀ t ∈ l, g ∣ t.1) : at_evl ν l = g * at_evl ν (l.map (fun t => (t.1 / g, t.2))) := by
  induction l with
  | nil => simp [at_evl]
  | cons t l ih =>
    rw [List.map_cons]
    unfold at_evl
    rw [ih (fun s hs => h s (List.mem_cons_of_mem _ hs)), Int.mul_add]
    dsimp only
    rw [← Int.mul_assoc, Int.mul_ediv_cancel' (h t List.mem_cons_self)]
theorem at_gn_ok (ν : Nat → Int) (a : at_A) : at_ev ν (at_gn a) ≤ 0 ↔ at_ev ν a ≤ 0 := by
  unfold at_gn
  cases hb : Nat.ble (at_gcd a.2) 1 with
  | true => exact Iff.rfl
  | false =>
    have hg : 1 < at_gcd a.2 := by
      rcases Nat.lt_or_ge 1 (at_gcd a.2) with h | h
      · exact h
      · rw [Nat.ble_eq_true_of_le h] at hb; cases hb
    show at_ev ν (-((-a.1) / (at_gcd a.2 : Int)), _) ≤ 0 ↔ _
    have e := at_evl_div (ν := ν) (g := (at_gcd a.2 : Int)) (l := a.2) (fun t ht => at_gcd_dvd ht)
    unfold at_ev
    dsimp only
    rw [e]
    generalize at_evl ν (a.2.map (fun t => (t.1 / (at_gcd a.2 : Int), t.2))) = z
    have hg0 : (0 : Int) < (at_gcd a.2 : Int) := by omega
    generalize (at_gcd a.2 : Int) = g at hg0 ⊢
    have k := Int.le_ediv_iff_mul_le (a := z) (b := -a.1) hg0
    rw [Int.mul_comm] at k
    constructor
    · intro h
      have := k.mp (by omega)
      omega
    · intro h
      have := k.mpr (by omega)
      omega
theorem at_ent_ok {ν : Nat → Int} {P : at_P} (hP : at_GP ν P) : ∀ (d : Nat) (a : at_A), at_ent P d a = true → at_ev ν a ≤ 0 := by
  intro d
  induction d with
  | zero =>
    intro a h
    have h1 := of_decide_eq_true h
    have := at_hi_le hP.1 a
    omega
  | succ d ih =>
    intro a h
    unfold at_ent at h
    rcases (Bool.or_eq_true _ _).mp h with h | h
    · have h1 := of_decide_eq_true h
      have := at_hi_le hP.1 a
      omega
    · split at h
      · cases h
      · obtain ⟨c, hc, h⟩ := List.any_eq_true.mp h
        split at h
        · cases h
        · rename_i t r ec
          simp only [Bool.and_eq_true, decide_eq_true_eq] at h
          obtain ⟨h1, h2, h3⟩ := h
          generalize at_co t.2 (at_gn a).2 = ac at h1 h2 h3
          have h3 := ih _ h3
          rw [at_ev_sub, at_ev_mul] at h3
          have hc0 := hP.2.1 c hc
          refine (at_gn_ok ν a).mp ?_
          have hk : 0 ≤ ac / t.1 := by
            obtain ⟨q, rfl⟩ := Int.dvd_of_emod_eq_zero h2
            have ht : t.1 ≠ 0 := by intro e; rw [e] at h1; simp at h1
            rw [Int.mul_ediv_cancel_left _ ht]
            rcases Int.lt_or_le q 0 with hq | hq
            · exfalso
              have h5 : 0 < t.1 * t.1 := by
                rcases Int.lt_or_lt_of_ne ht with h | h
                · exact Int.mul_pos_of_neg_of_neg h h
                · exact Int.mul_pos h h
              have h6 := Int.mul_neg_of_pos_of_neg h5 hq
              have e : t.1 * q * t.1 = t.1 * t.1 * q := by rw [Int.mul_assoc, Int.mul_comm q, ← Int.mul_assoc]
              omega
            · exact hq
          have := Int.mul_nonpos_of_nonneg_of_nonpos hk hc0
          omega
theorem at_le_ok {ν : Nat → Int} {P : at_P} (hP : at_GP ν P) {a : at_A} (h : at_le P a = true) : at_ev ν a ≤ 0 := at_ent_ok hP 2 a h
theorem at_inR_ok {ν : Nat → Int} {P : at_P} (hP : at_GP ν P) {a : at_A} {lo hi : Int} (h : at_inR P a lo hi = true) : lo ≤ at_ev ν a ∧ at_ev ν a ≤ hi := by
  unfold at_inR at h
  simp only [Bool.and_eq_true, Bool.or_eq_true, decide_eq_true_eq] at h
  obtain ⟨h1, h2⟩ := h
  constructor
  · rcases h1 with h1 | h1
    · have := at_lo_le hP.1 a
      omega
    · have := at_le_ok hP h1
      rw [at_ev_sub, at_ev_c] at this
      omega
  · rcases h2 with h2 | h2
    · have := at_hi_le hP.1 a
      omega
    · have := at_le_ok hP h2
      rw [at_ev_sub, at_ev_c] at this
      omega
theorem at_Rg.set {ν : Nat → Int} {sy : List (Int × Int)} (h : at_Rg ν sy) {x : Nat} {l u : Int} (h1 : l ≤ ν x) (h2 : ν x ≤ u) : at_Rg ν (sy.set x (l, u)) := by
  intro y
  by_cases hy : y = x
  · subst hy
    by_cases hl : y < sy.length
    · have e : at_bd (sy.set y (l, u)) y = (l, u) := by
        unfold at_bd
        rw [List.getD_eq_getElem?_getD, List.getElem?_set_self hl]
        rfl
      rw [e]
      exact ⟨h1, h2⟩
    · have e : sy.set y (l, u) = sy := List.set_eq_of_length_le (by omega)
      rw [e]
      exact h y
  · have e : at_bd (sy.set x (l, u)) y = at_bd sy y := by
      unfold at_bd
      rw [List.getD_eq_getElem?_getD, List.getElem?_set_ne (Ne.symm hy), ← List.getD_eq_getElem?_getD]
    rw [e]
    exact h y
theorem at_los_rest {ν : Nat → Int} {sy : List (Int × Int)} (h : at_Rg ν sy) {l : List (Int × Nat)} {t : Int × Nat} (ht : t ∈ l) : (0 < t.1 → at_los sy l - t.1 * (at_bd sy t.2).1 ≤ at_evl ν l - t.1 * ν t.2) ∧ (¬ 0 < t.1 → at_los sy l - t.1 * (at_bd sy t.2).2 ≤ at_evl ν l - t.1 * ν t.2) := by
  induction l with
  | nil => cases ht
  | cons q r ih =>
    have hr := at_los_le h r
    rcases List.mem_cons.mp ht with rfl | hm
    · have e1 : at_los sy (t :: r) = (bif decide (0 < t.1) then t.1 * (at_bd sy t.2).1 else t.1 * (at_bd sy t.2).2) + at_los sy r := rfl
      have e2 : at_evl ν (t :: r) = t.1 * ν t.2 + at_evl ν r := rfl
      rw [e1, e2]
      constructor
      · intro hp
        rw [decide_eq_true hp]
        dsimp only [cond_true]
        omega
      · intro hp
        rw [decide_eq_false hp]
        dsimp only [cond_false]
        omega
    · have e1 : at_los sy (q :: r) = (bif decide (0 < q.1) then q.1 * (at_bd sy q.2).1 else q.1 * (at_bd sy q.2).2) + at_los sy r := rfl
      have e2 : at_evl ν (q :: r) = q.1 * ν q.2 + at_evl ν r := rfl
      have h1 : at_los sy [q] ≤ at_evl ν [q] := at_los_le h [q]
      have e3 : at_los sy [q] = (bif decide (0 < q.1) then q.1 * (at_bd sy q.2).1 else q.1 * (at_bd sy q.2).2) + 0 := rfl
      have e4 : at_evl ν [q] = q.1 * ν q.2 + 0 := rfl
      rw [e3, e4] at h1
      rw [e1, e2]
      obtain ⟨i1, i2⟩ := ih hm
      exact ⟨fun hp => by have := i1 hp; omega, fun hp => by have := i2 hp; omega⟩
theorem at_ref_ok {ν : Nat → Int} {s0 : List (Int × Int)} {lo tot : Int} (hz : tot ≤ 0) : ∀ (l : List (Int × Nat)) (sy : List (Int × Int)), (∀ t ∈ l, (0 < t.1 → lo - t.1 * (at_bd s0 t.2).1 ≤ tot - t.1 * ν t.2) ∧ (¬ 0 < t.1 → lo - t.1 * (at_bd s0 t.2).2 ≤ tot - t.1 * ν t.2)) → (∀ t ∈ l, t.1 ≠ 0) → at_Rg ν sy → ∃ sy', at_ref s0 lo l sy = some sy' ∧ at_Rg ν sy' ∧ sy'.length = sy.length := by
  intro l
  induction l with
  | nil => intro sy _ _ h; exact ⟨sy, rfl, h, rfl⟩
  | cons t r ih =>
    intro sy hl h0 h
    obtain ⟨k1, k2⟩ := hl t List.mem_cons_self
    have hn := h0 t List.mem_cons_self
    obtain ⟨b1, b2⟩ := h t.2
    unfold at_ref
    cases hc : decide (0 < t.1) with
    | true =>
      have hp := of_decide_eq_true hc
      have k1 := k1 hp
      dsimp only [cond_true]
      have hb : ν t.2 ≤ (-(lo - t.1 * (at_bd s0 t.2).1)) / t.1 := by
        rw [Int.le_ediv_iff_mul_le hp, Int.mul_comm]
        omega
      have hle : (at_bd sy t.2).1 ≤ min (at_bd sy t.2).2 ((-(lo - t.1 * (at_bd s0 t.2).1)) / t.1) := by omega
      rw [decide_eq_true hle]
      dsimp only [cond_true]
      obtain ⟨sy', e1, e2, e3⟩ := ih (sy.set t.2 ((at_bd sy t.2).1, min (at_bd sy t.2).2 ((-(lo - t.1 * (at_bd s0 t.2).1)) / t.1))) (fun s hs => hl s (List.mem_cons_of_mem _ hs)) (fun s hs => h0 s (List.mem_cons_of_mem _ hs)) (h.set b1 (by omega))
      exact ⟨sy', e1, e2, by rw [e3, List.length_set]⟩
    | false =>
      have hp := of_decide_eq_false hc
      have k2 := k2 hp
      dsimp only [cond_false]
      have hneg : 0 < -t.1 := by omega
      have hb : -((-(lo - t.1 * (at_bd s0 t.2).2)) / (-t.1)) ≤ ν t.2 := by
        have : -ν t.2 ≤ (-(lo - t.1 * (at_bd s0 t.2).2)) / (-t.1) := by
          rw [Int.le_ediv_iff_mul_le hneg, Int.neg_mul_neg, Int.mul_comm]
          omega
        omega
      have hle : max (at_bd sy t.2).1 (-((-(lo - t.1 * (at_bd s0 t.2).2)) / (-t.1))) ≤ (at_bd sy t.2).2 := by omega
      rw [decide_eq_true hle]
      dsimp only [cond_true]
      obtain ⟨sy', e1, e2, e3⟩ := ih (sy.set t.2 (max (at_bd sy t.2).1 (-((-(lo - t.1 * (at_bd s0 t.2).2)) / (-t.1))), (at_bd sy t.2).2)) (fun s hs => hl s (List.mem_cons_of_mem _ hs)) (fun s hs => h0 s (List.mem_cons_of_mem _ hs)) (h.set (by omega) b2)
      exact ⟨sy', e1, e2, by rw [e3, List.length_set]⟩

theorem at_as_ok {ν : Nat → Int} {P : at_P} (hP : at_GP ν P) {a : at_A} (h : at_ev ν a ≤ 0) : ∃ P', at_as P a = some P' ∧ at_GP ν P' ∧ P'.1.length = P.1.length := by
  unfold at_as
  cases h1 : decide (at_hi P.1 a ≤ 0) with
  | true => exact ⟨P, rfl, hP, rfl⟩
  | false =>
    dsimp only [cond_false]
    have hlo : ¬ 0 < at_lo P.1 a := by have := at_lo_le hP.1 a; omega
    rw [decide_eq_false hlo]
    dsimp only [cond_false]
    cases h2 : at_le P a with
    | true => exact ⟨P, rfl, hP, rfl⟩
    | false =>
      dsimp only [cond_false]
      cases h3 : at_le P (at_sub (at_c 1) a) with
      | true =>
        exfalso
        have := at_le_ok hP h3
        rw [at_ev_sub, at_ev_c] at this
        omega
      | false =>
        dsimp only [cond_false]
        have hg := (at_gn_ok ν a).mpr h
        have key : ∃ sy, (bif (at_gn a).2.all (fun t => !decide (t.1 = 0)) then at_ref P.1 (at_lo P.1 (at_gn a)) (at_gn a).2 P.1 else some P.1) = some sy ∧ at_Rg ν sy ∧ sy.length = P.1.length := by
          cases hb : (at_gn a).2.all (fun t => !decide (t.1 = 0)) with
          | false => exact ⟨P.1, rfl, hP.1, rfl⟩
          | true =>
            refine at_ref_ok hg (at_gn a).2 P.1 (fun t ht => ?_) (fun t ht => ?_) hP.1
            · obtain ⟨k1, k2⟩ := at_los_rest hP.1 ht
              unfold at_lo at_ev
              exact ⟨fun hp => by have := k1 hp; omega, fun hp => by have := k2 hp; omega⟩
            · have := List.all_eq_true.mp hb t ht
              simpa using this
        obtain ⟨sy, e, e2, e3⟩ := key
        rw [e]
        refine ⟨_, rfl, ⟨e2, ?_, hP.2.2⟩, e3⟩
        intro c hc
        rcases List.mem_cons.mp hc with rfl | hc
        · exact hg
        · exact hP.2.1 c hc
theorem at_as_no {ν : Nat → Int} {P : at_P} (hP : at_GP ν P) {a : at_A} (h : at_as P a = none) : ¬ at_ev ν a ≤ 0 := by
  intro h2
  obtain ⟨P', e, -⟩ := at_as_ok hP h2
  rw [h] at e
  cases e
theorem at_as_yes {ν : Nat → Int} {P P' : at_P} (hP : at_GP ν P) {a : at_A} (h : at_as P a = some P') (h2 : at_ev ν a ≤ 0) : at_GP ν P' ∧ P'.1.length = P.1.length := by
  obtain ⟨P'', e, e2⟩ := at_as_ok hP h2
  rw [h] at e
  cases e
  exact e2
theorem at_nz_ok {ν : Nat → Int} {P : at_P} (hP : at_GP ν P) {d : at_A} (h : at_nz P d = true) : at_ev ν d ≠ 0 := by
  unfold at_nz at h
  simp only [Bool.or_eq_true, Bool.and_eq_true, decide_eq_true_eq, Bool.not_eq_true', decide_eq_false_iff_not] at h
  rcases h with h | h | ⟨h1, h2⟩
  · have := at_lo_le hP.1 d; omega
  · have := at_hi_le hP.1 d; omega
  · intro e
    have e2 := at_evl_div (ν := ν) (g := (at_gcd d.2 : Int)) (l := d.2) (fun t ht => at_gcd_dvd ht)
    unfold at_ev at e
    rw [e2] at e
    have e3 : d.1 = (at_gcd d.2 : Int) * (-at_evl ν (d.2.map (fun t => (t.1 / (at_gcd d.2 : Int), t.2)))) := by rw [Int.mul_neg]; omega
    exact h2 (Int.emod_eq_zero_of_dvd ⟨_, e3⟩)
/-- only names below n -/
def at_wf (n : Nat) (a : at_A) : Prop := ∀ t ∈ a.2, t.2 < n
theorem at_wf.mono {n k : Nat} {a : at_A} (h : at_wf n a) (hk : n ≤ k) : at_wf k a := fun t ht => Nat.lt_of_lt_of_le (h t ht) hk
theorem at_ins_mem {t s : Int × Nat} {l : List (Int × Nat)} (h : s ∈ at_ins t l) : s.2 = t.2 ∨ ∃ q ∈ l, s.2 = q.2 := by
  induction l with
  | nil =>
    rcases List.mem_cons.mp h with rfl | h
    · exact Or.inl rfl
    · cases h
  | cons q r ih =>
    unfold at_ins at h
    cases h1 : Nat.beq t.2 q.2 with
    | true =>
      rw [h1] at h
      dsimp only [cond_true] at h
      cases h2 : decide (t.1 + q.1 = 0) with
      | true =>
        rw [h2] at h
        exact Or.inr ⟨s, List.mem_cons_of_mem _ h, rfl⟩
      | false =>
        rw [h2] at h
        rcases List.mem_cons.mp h with rfl | h
        · exact Or.inr ⟨q, List.mem_cons_self, rfl⟩
        · exact Or.inr ⟨s, List.mem_cons_of_mem _ h, rfl⟩
    | false =>
      rw [h1] at h
      dsimp only [cond_false] at h
      cases h2 : Nat.blt t.2 q.2 with
      | true =>
        rw [h2] at h
        rcases List.mem_cons.mp h with rfl | h
        · exact Or.inl rfl
        · exact Or.inr ⟨s, h, rfl⟩
      | false =>
        rw [h2] at h
        rcases List.mem_cons.mp h with rfl | h
        · exact Or.inr ⟨s, List.mem_cons_self, rfl⟩
        · rcases ih h with h | ⟨u, hu, e⟩
          · exact Or.inl h
          · exact Or.inr ⟨u, List.mem_cons_of_mem _ hu, e⟩
theorem at_wf_add {n : Nat} {a b : at_A} (ha : at_wf n a) (hb : at_wf n b) : at_wf n (at_add a b) := by
  have key : ∀ l : List (Int × Nat), (∀ t ∈ l, t.2 < n) → ∀ t ∈ l.foldr at_ins b.2, t.2 < n := by
    intro l
    induction l with
    | nil => intro _ t ht; exact hb t ht
    | cons q r ih =>
      intro hl t ht
      rcases at_ins_mem (by simpa using ht) with e | ⟨u, hu, e⟩
      · rw [e]; exact hl q List.mem_cons_self
      · rw [e]; exact ih (fun s hs => hl s (List.mem_cons_of_mem _ hs)) u hu
  exact key a.2 ha
theorem at_wf_mul {n : Nat} {k : Int} {a : at_A} (ha : at_wf n a) : at_wf n (at_mul k a) := by
  unfold at_mul
  cases decide (k = 0) with
  | true => intro t ht; cases ht
  | false =>
    intro t ht
    obtain ⟨s, hs, rfl⟩ := List.mem_map.mp ht
    exact ha s hs
theorem at_wf_sub {n : Nat} {a b : at_A} (ha : at_wf n a) (hb : at_wf n b) : at_wf n (at_sub a b) := at_wf_add (at_wf_mul hb) ha
theorem at_wf_c {n : Nat} {k : Int} : at_wf n (at_c k) := fun t ht => by cases ht
theorem at_wf_gn {n : Nat} {a : at_A} (ha : at_wf n a) : at_wf n (at_gn a) := by
  unfold at_gn
  cases Nat.ble (at_gcd a.2) 1 with
  | true => exact ha
  | false =>
    intro t ht
    obtain ⟨s, hs, rfl⟩ := List.mem_map.mp ht
    exact ha s hs
/-- two valuations agree below n -/
def at_ag (n : Nat) (ν ν' : Nat → Int) : Prop := ∀ x, x < n → ν' x = ν x
theorem at_ag.rfl {n : Nat} {ν : Nat → Int} : at_ag n ν ν := fun _ _ => Eq.refl _
theorem at_ag.trans {n k : Nat} {ν ν' ν'' : Nat → Int} (h : at_ag n ν ν') (h2 : at_ag k ν' ν'') (hk : n ≤ k) : at_ag n ν ν'' := fun x hx => (h2 x (Nat.lt_of_lt_of_le hx hk)).trans (h x hx)
theorem at_evl_ag {n : Nat} {ν ν' : Nat → Int} (h : at_ag n ν ν') {l : List (Int × Nat)} (hl : ∀ t ∈ l, t.2 < n) : at_evl ν' l = at_evl ν l := by
  induction l with
  | nil => rfl
  | cons t r ih =>
    unfold at_evl
    rw [h t.2 (hl t List.mem_cons_self), ih (fun s hs => hl s (List.mem_cons_of_mem _ hs))]
theorem at_ev_ag {n : Nat} {ν ν' : Nat → Int} (h : at_ag n ν ν') {a : at_A} (ha : at_wf n a) : at_ev ν' a = at_ev ν a := by
  unfold at_ev
  rw [at_evl_ag h ha]
/-- the path's conditions speak of names that are there -/
def at_wP (P : at_P) : Prop := (∀ c ∈ P.2.1, at_wf P.1.length c) ∧ (∀ d ∈ P.2.2, at_wf P.1.length d)
theorem at_as_wf {P P' : at_P} {a : at_A} (hP : at_wP P) (ha : at_wf P.1.length a) (h : at_as P a = some P') (hl : P'.1.length = P.1.length) : at_wP P' := by
  unfold at_as at h
  cases h1 : decide (at_hi P.1 a ≤ 0) with
  | true => rw [h1] at h; cases h; exact hP
  | false =>
    rw [h1] at h
    dsimp only [cond_false] at h
    cases h2 : decide (0 < at_lo P.1 a) with
    | true => rw [h2] at h; cases h
    | false =>
      rw [h2] at h
      dsimp only [cond_false] at h
      cases h3 : at_le P a with
      | true => rw [h3] at h; cases h; exact hP
      | false =>
        rw [h3] at h
        dsimp only [cond_false] at h
        cases h4 : at_le P (at_sub (at_c 1) a) with
        | true => rw [h4] at h; cases h
        | false =>
          rw [h4] at h
          dsimp only [cond_false] at h
          split at h
          · cases h
            dsimp only at hl
            unfold at_wP
            dsimp only
            rw [hl]
            refine ⟨fun c hc => ?_, hP.2⟩
            rcases List.mem_cons.mp hc with rfl | hc
            · exact at_wf_gn ha
            · exact hP.1 c hc
          · cases h
/-- what is known of a path -/
def at_KP (ν : Nat → Int) (P : at_P) : Prop := at_GP ν P ∧ at_wP P
/-- more is known; the names that were there stand for the same -/
def at_X (ν : Nat → Int) (P : at_P) (ν' : Nat → Int) (P' : at_P) : Prop := at_ag P.1.length ν ν' ∧ P.1.length ≤ P'.1.length ∧ at_KP ν' P'
theorem at_X.rfl {ν : Nat → Int} {P : at_P} (h : at_KP ν P) : at_X ν P ν P := ⟨at_ag.rfl, Nat.le_refl _, h⟩
theorem at_X.trans {ν ν' ν'' : Nat → Int} {P P' P'' : at_P} (h : at_X ν P ν' P') (h2 : at_X ν' P' ν'' P'') : at_X ν P ν'' P'' := ⟨h.1.trans h2.1 h.2.1, Nat.le_trans h.2.1 h2.2.1, h2.2.2⟩
theorem at_as_X {ν : Nat → Int} {P : at_P} (hP : at_KP ν P) {a : at_A} (ha : at_wf P.1.length a) (h : at_ev ν a ≤ 0) : ∃ P', at_as P a = some P' ∧ at_X ν P ν P' ∧ P'.1.length = P.1.length := by
  obtain ⟨P', e, h1, h2⟩ := at_as_ok hP.1 h
  exact ⟨P', e, ⟨at_ag.rfl, by omega, h1, at_as_wf hP.2 ha e h2⟩, h2⟩
theorem at_bd_new {sy : List (Int × Int)} {q : Int × Int} {x : Nat} (h : x ≠ sy.length) : at_bd (sy ++ [q]) x = at_bd sy x := by
  unfold at_bd
  rw [List.getD_eq_getElem?_getD, List.getD_eq_getElem?_getD]
  rcases Nat.lt_or_ge x sy.length with hl | hl
  · rw [List.getElem?_append_left hl]
  · rw [List.getElem?_append_right hl, List.getElem?_eq_none (l := [q]) (by simp; omega), List.getElem?_eq_none hl]
theorem at_bd_newS {sy : List (Int × Int)} {q : Int × Int} : at_bd (sy ++ [q]) sy.length = q := by
  unfold at_bd
  simp [List.getD_eq_getElem?_getD]
theorem at_new_X {ν : Nat → Int} {P : at_P} (hP : at_KP ν P) {lo hi x : Int} (h1 : lo ≤ x) (h2 : x ≤ hi) : ∃ ν', at_X ν P ν' (at_new P lo hi) ∧ at_wf (at_new P lo hi).1.length (at_nv P) ∧ at_ev ν' (at_nv P) = x := by
  have hag : at_ag P.1.length ν (fun y => if y = P.1.length then x else ν y) := fun y hy => if_neg (by omega)
  have hlen : (at_new P lo hi).1.length = P.1.length + 1 := by simp [at_new]
  refine ⟨fun y => if y = P.1.length then x else ν y, ⟨hag, by omega, ⟨?_, ?_, ?_⟩, ?_, ?_⟩, ?_, ?_⟩
  · intro y
    show (at_bd (P.1 ++ [(lo, hi)]) y).1 ≤ _ ∧ _ ≤ (at_bd (P.1 ++ [(lo, hi)]) y).2
    by_cases hy : y = P.1.length
    · subst hy
      rw [at_bd_newS]
      simp [h1, h2]
    · rw [at_bd_new hy]
      simp only [if_neg hy]
      exact hP.1.1 y
  · intro c hc
    rw [at_ev_ag hag (hP.2.1 c hc)]
    exact hP.1.2.1 c hc
  · intro d hd
    rw [at_ev_ag hag (hP.2.2 d hd)]
    exact hP.1.2.2 d hd
  · intro c hc
    exact (hP.2.1 c hc).mono (by omega)
  · intro d hd
    exact (hP.2.2 d hd).mono (by omega)
  · intro t ht
    have : t = (1, P.1.length) := by simpa [at_nv, at_v] using ht
    rw [this]
    show P.1.length < _
    omega
  · unfold at_nv
    rw [at_ev_v]
    simp

end

/-! 56.num.lean.txt -/
section
/-! ===== the looker's arithmetic ===== -/
/-- an answer of the looker stands for z -/
def at_Sp (ν : Nat → Int) (P : at_P) (q : at_P × at_A) (z : Int) : Prop := ∃ ν', at_X ν P ν' q.1 ∧ at_wf q.1.1.length q.2 ∧ at_ev ν' q.2 = z
def at_fr (P : at_P) (lo hi : Int) : at_P × at_A := (at_new P lo hi, at_nv P)
theorem at_fr_ok {ν : Nat → Int} {P : at_P} (hP : at_KP ν P) {lo hi z : Int} (h1 : lo ≤ z) (h2 : z ≤ hi) : at_Sp ν P (at_fr P lo hi) z := by
  obtain ⟨ν', h, hw, he⟩ := at_new_X hP h1 h2
  exact ⟨ν', h, hw, he⟩
def at_fx (P : at_P) (a : at_A) (lo hi : Int) : at_P × at_A := bif at_inR P a lo hi then (P, a) else at_fr P lo hi
theorem at_fx_ok {ν : Nat → Int} {P : at_P} (hP : at_KP ν P) {a : at_A} (ha : at_wf P.1.length a) {lo hi z : Int} (h1 : lo ≤ z) (h2 : z ≤ hi) (he : lo ≤ at_ev ν a → at_ev ν a ≤ hi → z = at_ev ν a) : at_Sp ν P (at_fx P a lo hi) z := by
  unfold at_fx
  cases h : at_inR P a lo hi with
  | false => exact at_fr_ok hP h1 h2
  | true =>
    obtain ⟨k1, k2⟩ := at_inR_ok hP.1 h
    exact ⟨ν, at_X.rfl hP, ha, (he k1 k2).symm⟩
def at_try (P : at_P) (a : at_A) : at_P := match at_as P a with
  | some P' => P'
  | none => P
theorem at_try_X {ν : Nat → Int} {P : at_P} (hP : at_KP ν P) {a : at_A} (ha : at_wf P.1.length a) (h : at_ev ν a ≤ 0) : at_X ν P ν (at_try P a) ∧ (at_try P a).1.length = P.1.length := by
  obtain ⟨P', e, h1, h2⟩ := at_as_X hP ha h
  unfold at_try
  rw [e]
  exact ⟨h1, h2⟩
def at_ic (sy : List (Int × Int)) (a : at_A) : Option Int := bif decide (at_lo sy a = at_hi sy a) then some (at_lo sy a) else none
theorem at_ic_ok {ν : Nat → Int} {sy : List (Int × Int)} (h : at_Rg ν sy) {a : at_A} {k : Int} (e : at_ic sy a = some k) : at_ev ν a = k := by
  unfold at_ic at e
  cases hd : decide (at_lo sy a = at_hi sy a) with
  | false => rw [hd] at e; cases e
  | true =>
    rw [hd] at e
    cases e
    have := of_decide_eq_true hd
    have := at_lo_le h a
    have := at_hi_le h a
    omega
/-- two numbers' product, in which of them one is known; else by ranges -/
def at_ml (P : at_P) (a b : at_A) (lo hi : Int) : at_P × at_A := match at_ic P.1 a, at_ic P.1 b with
  | some k, _ => at_fx P (at_mul k b) lo hi
  | none, some k => at_fx P (at_mul k a) lo hi
  | none, none => (fun xl xh yl yh : Int => (fun l h : Int => bif decide (lo ≤ l) && decide (h ≤ hi) then
      (fun z : at_A => (fun P1 : at_P => ((bif decide (0 ≤ xl) then at_try P1 (at_sub z (at_mul yh a)) else P1), z)) (bif decide (0 ≤ yl) then at_try (at_new P l h) (at_sub z (at_mul xh b)) else at_new P l h)) (at_nv P)
      else at_fr P lo hi) (min (min (xl * yl) (xl * yh)) (min (xh * yl) (xh * yh))) (max (max (xl * yl) (xl * yh)) (max (xh * yl) (xh * yh)))) (at_lo P.1 a) (at_hi P.1 a) (at_lo P.1 b) (at_hi P.1 b)
theorem at_prod {xl xh yl yh x y : Int} (h1 : xl ≤ x) (h2 : x ≤ xh) (h3 : yl ≤ y) (h4 : y ≤ yh) : min (min (xl * yl) (xl * yh)) (min (xh * yl) (xh * yh)) ≤ x * y ∧ x * y ≤ max (max (xl * yl) (xl * yh)) (max (xh * yl) (xh * yh)) := by
  have a1 : min (x * yl) (x * yh) ≤ x * y ∧ x * y ≤ max (x * yl) (x * yh) := by
    rcases Int.le_total 0 x with h | h
    · have := Int.mul_le_mul_of_nonneg_left h3 h
      have := Int.mul_le_mul_of_nonneg_left h4 h
      omega
    · have := Int.mul_le_mul_of_nonpos_left h h3
      have := Int.mul_le_mul_of_nonpos_left h h4
      omega
  have a2 : ∀ c : Int, min (xl * c) (xh * c) ≤ x * c ∧ x * c ≤ max (xl * c) (xh * c) := by
    intro c
    rcases Int.le_total 0 c with h | h
    · have := Int.mul_le_mul_of_nonneg_right h1 h
      have := Int.mul_le_mul_of_nonneg_right h2 h
      omega
    · have := Int.mul_le_mul_of_nonpos_right h1 h
      have := Int.mul_le_mul_of_nonpos_right h2 h
      omega
  have b1 := a2 yl
  have b2 := a2 yh
  omega
theorem at_ml_ok {ν : Nat → Int} {P : at_P} (hP : at_KP ν P) {a b : at_A} (ha : at_wf P.1.length a) (hb : at_wf P.1.length b) {lo hi z : Int} (h1 : lo ≤ z) (h2 : z ≤ hi) (he : lo ≤ at_ev ν a * at_ev ν b → at_ev ν a * at_ev ν b ≤ hi → z = at_ev ν a * at_ev ν b) : at_Sp ν P (at_ml P a b lo hi) z := by
  unfold at_ml
  rcases e1 : at_ic P.1 a with _ | k
  case some =>
    have e2 := at_ic_ok hP.1.1 e1
    refine at_fx_ok hP (at_wf_mul hb) h1 h2 ?_
    rw [at_ev_mul, ← e2]
    exact he
  rcases e3 : at_ic P.1 b with _ | k
  case some =>
    have e2 := at_ic_ok hP.1.1 e3
    refine at_fx_ok hP (at_wf_mul ha) h1 h2 ?_
    rw [at_ev_mul, ← e2, Int.mul_comm]
    exact he
  · have xl1 := at_lo_le hP.1.1 a
    have xh1 := at_hi_le hP.1.1 a
    have yl1 := at_lo_le hP.1.1 b
    have yh1 := at_hi_le hP.1.1 b
    generalize at_lo P.1 a = xl at xl1 ⊢
    generalize at_hi P.1 a = xh at xh1 ⊢
    generalize at_lo P.1 b = yl at yl1 ⊢
    generalize at_hi P.1 b = yh at yh1 ⊢
    dsimp only
    obtain ⟨p1, p2⟩ := at_prod xl1 xh1 yl1 yh1
    generalize min (min (xl * yl) (xl * yh)) (min (xh * yl) (xh * yh)) = l at p1 ⊢
    generalize max (max (xl * yl) (xl * yh)) (max (xh * yl) (xh * yh)) = h at p2 ⊢
    cases hd : decide (lo ≤ l) && decide (h ≤ hi) with
    | false => exact at_fr_ok hP h1 h2
    | true =>
      simp only [Bool.and_eq_true, decide_eq_true_eq] at hd
      dsimp only [cond_true]
      have hz := he (by omega) (by omega)
      rw [← hz] at p1 p2
      obtain ⟨ν', hx, hw, hv⟩ := at_new_X hP p1 p2
      have hlen := hx.2.1
      have ea := at_ev_ag hx.1 ha
      have eb := at_ev_ag hx.1 hb
      have k1 : ∃ P1, P1 = (bif decide (0 ≤ yl) then at_try (at_new P l h) (at_sub (at_nv P) (at_mul xh b)) else at_new P l h) ∧ at_X ν P ν' P1 ∧ P1.1.length = (at_new P l h).1.length := by
        refine ⟨_, rfl, ?_⟩
        cases hy : decide (0 ≤ yl) with
        | false => exact ⟨hx, rfl⟩
        | true =>
          have hy := of_decide_eq_true hy
          have q : at_ev ν' (at_sub (at_nv P) (at_mul xh b)) ≤ 0 := by
            rw [at_ev_sub, at_ev_mul, hv, eb, hz]
            have := Int.mul_le_mul_of_nonneg_right xh1 (by omega : 0 ≤ at_ev ν b)
            omega
          obtain ⟨k1, k2⟩ := at_try_X hx.2.2 (at_wf_sub hw (at_wf_mul (hb.mono hlen))) q
          exact ⟨hx.trans k1, k2⟩
      obtain ⟨P1, e1, x1, l1⟩ := k1
      rw [← e1]
      have hw1 : at_wf P1.1.length (at_nv P) := by rw [l1]; exact hw
      cases hxl : decide (0 ≤ xl) with
      | false => exact ⟨ν', x1, hw1, hv⟩
      | true =>
        have hxl := of_decide_eq_true hxl
        have q : at_ev ν' (at_sub (at_nv P) (at_mul yh a)) ≤ 0 := by
          rw [at_ev_sub, at_ev_mul, hv, ea, hz, Int.mul_comm yh]
          have := Int.mul_le_mul_of_nonneg_left yh1 (by omega : 0 ≤ at_ev ν a)
          omega
        obtain ⟨k1, k2⟩ := at_try_X x1.2.2 (at_wf_sub hw1 (at_wf_mul (ha.mono x1.2.1))) q
        refine ⟨ν', x1.trans k1, ?_, hv⟩
        dsimp only [cond_true]
        rw [k2]
        exact hw1
/-- is the number known to be above 0? -/
def at_ps (P : at_P) (b : at_A) : Bool := decide (0 < at_lo P.1 b) || at_le P (at_sub (at_c 1) b)
def at_nn (P : at_P) (a : at_A) : Bool := decide (0 ≤ at_lo P.1 a) || at_le P (at_mul (-1) a)
def at_n0 (P : at_P) (b : at_A) : Bool := at_ps P b || (decide (at_hi P.1 b < 0) || P.2.2.any (fun d => at_eq d b))
theorem at_ps_ok {ν : Nat → Int} {P : at_P} (hP : at_GP ν P) {b : at_A} (h : at_ps P b = true) : 0 < at_ev ν b := by
  unfold at_ps at h
  rcases (Bool.or_eq_true _ _).mp h with h | h
  · have := of_decide_eq_true h
    have := at_lo_le hP.1 b
    omega
  · have := at_le_ok hP h
    rw [at_ev_sub, at_ev_c] at this
    omega
theorem at_nn_ok {ν : Nat → Int} {P : at_P} (hP : at_GP ν P) {b : at_A} (h : at_nn P b = true) : 0 ≤ at_ev ν b := by
  unfold at_nn at h
  rcases (Bool.or_eq_true _ _).mp h with h | h
  · have := of_decide_eq_true h
    have := at_lo_le hP.1 b
    omega
  · have := at_le_ok hP h
    rw [at_ev_mul] at this
    omega
theorem at_n0_ok {ν : Nat → Int} {P : at_P} (hP : at_GP ν P) {b : at_A} (h : at_n0 P b = true) : at_ev ν b ≠ 0 := by
  unfold at_n0 at h
  simp only [Bool.or_eq_true, decide_eq_true_eq, List.any_eq_true] at h
  rcases h with h | h | ⟨d, hd, e⟩
  · have := at_ps_ok hP h; omega
  · have := at_hi_le hP.1 b; omega
  · rw [← at_eq_ok e]
    exact hP.2.2 d hd
/-- what is known of a quotient by d of the number x: from x - T <= 0, where d divides T -/
def at_dq (z : at_A) (d : Int) (x : Nat) : List at_A → at_P → at_P
  | [], P => P
  | c :: r, P => at_dq z d x r ((fun T : at_A => bif decide (at_co x T.2 = 0) && (decide (T.1 % d = 0) && T.2.all (fun t => decide (t.1 % d = 0))) then at_try P (at_sub z (T.1 / d, T.2.map (fun t => (t.1 / d, t.2)))) else P) (at_sub (at_v x) c))
def at_dv (P : at_P) (a b : at_A) (lo hi : Int) : Option (at_P × at_A) :=
  bif !at_n0 P b then none
  else bif at_ps P b && at_nn P a then
    some ((fun (l h : Int) (z : at_A) => (fun P1 : at_P => match at_ic P.1 b with
      | none => (P1, z)
      | some d => ((match a with
        | (0, [(1, x)]) => at_dq z d x P.2.1 (at_try P1 (at_sub (at_mul d z) a))
        | _ => at_try P1 (at_sub (at_mul d z) a)), z)) (at_new P l h)) (max (at_lo P.1 a) 0 / max (at_hi P.1 b) 1) ((fun h : Int => bif at_le P (at_sub a (at_mul 1000 b)) then min h 1000 else h) (at_hi P.1 a / max (at_lo P.1 b) 1)) (at_nv P))
  else some ((fun m : Int => bif decide (m ≤ hi) && decide (lo ≤ -m) then at_fr P (-m) m else at_fr P lo hi) (max (at_hi P.1 a) (-at_lo P.1 a) / max (at_lo P.1 b) 1))
theorem at_dq_ok {ν : Nat → Int} {z : at_A} {d : Int} {x : Nat} (hd : 0 < d) : ∀ (cs : List at_A) (P : at_P), at_KP ν P → at_wf P.1.length z → x < P.1.length → (∀ c ∈ cs, at_ev ν c ≤ 0 ∧ at_wf P.1.length c) → d * at_ev ν z ≤ ν x → at_X ν P ν (at_dq z d x cs P) ∧ (at_dq z d x cs P).1.length = P.1.length := by
  intro cs
  induction cs with
  | nil => intro P hP _ _ _ _; exact ⟨at_X.rfl hP, rfl⟩
  | cons c r ih =>
    intro P hP hz hx hc hq
    unfold at_dq
    dsimp only
    obtain ⟨c1, c2⟩ := hc c List.mem_cons_self
    have hv : at_wf P.1.length (at_v x) := by
      intro t ht
      have : t = (1, x) := by simpa [at_v] using ht
      rw [this]; exact hx
    have hT : at_wf P.1.length (at_sub (at_v x) c) := at_wf_sub hv c2
    have eT : at_ev ν (at_sub (at_v x) c) = ν x - at_ev ν c := by rw [at_ev_sub, at_ev_v]
    generalize at_sub (at_v x) c = T at hT eT ⊢
    have key : at_X ν P ν (bif decide (at_co x T.2 = 0) && (decide (T.1 % d = 0) && T.2.all (fun t => decide (t.1 % d = 0))) then at_try P (at_sub z (T.1 / d, T.2.map (fun t => (t.1 / d, t.2)))) else P) ∧ (bif decide (at_co x T.2 = 0) && (decide (T.1 % d = 0) && T.2.all (fun t => decide (t.1 % d = 0))) then at_try P (at_sub z (T.1 / d, T.2.map (fun t => (t.1 / d, t.2)))) else P).1.length = P.1.length := by
      cases hb : decide (at_co x T.2 = 0) && (decide (T.1 % d = 0) && T.2.all (fun t => decide (t.1 % d = 0))) with
      | false => exact ⟨at_X.rfl hP, rfl⟩
      | true =>
        simp only [Bool.and_eq_true, decide_eq_true_eq, List.all_eq_true] at hb
        obtain ⟨-, b2, b3⟩ := hb
        have hdv : ∀ t ∈ T.2, d ∣ t.1 := fun t ht => Int.dvd_of_emod_eq_zero (b3 t ht)
        have e2 := at_evl_div (ν := ν) hdv
        have e3 : at_ev ν T = d * at_ev ν (T.1 / d, T.2.map (fun t => (t.1 / d, t.2))) := by
          unfold at_ev
          dsimp only
          rw [e2, Int.mul_add, Int.mul_ediv_cancel' (Int.dvd_of_emod_eq_zero b2)]
        have hw : at_wf P.1.length (at_sub z (T.1 / d, T.2.map (fun t => (t.1 / d, t.2)))) := by
          refine at_wf_sub hz ?_
          intro t ht
          obtain ⟨s, hs, rfl⟩ := List.mem_map.mp ht
          exact hT s hs
        refine at_try_X hP hw ?_
        rw [at_ev_sub]
        have h5 : d * at_ev ν z ≤ d * at_ev ν (T.1 / d, T.2.map (fun t => (t.1 / d, t.2))) := by rw [← e3, eT]; omega
        have := Int.le_of_mul_le_mul_left h5 hd
        omega
    obtain ⟨k1, k2⟩ := key
    obtain ⟨k3, k4⟩ := ih _ k1.2.2 (by rw [k2]; exact hz) (by rw [k2]; exact hx) (fun c hc' => by rw [k2]; exact hc c (List.mem_cons_of_mem _ hc')) hq
    exact ⟨k1.trans k3, by rw [k4, k2]⟩

theorem at_tdiv_abs {x y m d : Int} (hy : y ≠ 0) (h1 : x ≤ m) (h2 : -x ≤ m) (hd : 1 ≤ d) (hdy : d = 1 ∨ d ≤ y) : -(m / d) ≤ x.tdiv y ∧ x.tdiv y ≤ m / d := by
  have e : (x.tdiv y).natAbs = x.natAbs / y.natAbs := Int.natAbs_tdiv x y
  have h3 : (x.tdiv y).natAbs * y.natAbs ≤ x.natAbs := by rw [e]; exact Nat.div_mul_le_self _ _
  have h4 : ((x.tdiv y).natAbs : Int) ≤ m / d := by
    refine (Int.le_ediv_iff_mul_le (by omega)).mpr ?_
    have h5 : ((x.tdiv y).natAbs : Int) * d ≤ (x.tdiv y).natAbs * (y.natAbs : Int) := Int.mul_le_mul_of_nonneg_left (by omega) (by omega)
    have h6 : ((x.tdiv y).natAbs : Int) * (y.natAbs : Int) ≤ x.natAbs := by exact_mod_cast h3
    omega
  omega
theorem at_dv_ok {ν : Nat → Int} {P : at_P} (hP : at_KP ν P) {a b : at_A} (ha : at_wf P.1.length a) (hb : at_wf P.1.length b) {lo hi z : Int} {q : at_P × at_A} (h : at_dv P a b lo hi = some q) (h1 : lo ≤ z) (h2 : z ≤ hi) (he : lo ≤ (at_ev ν a).tdiv (at_ev ν b) → (at_ev ν a).tdiv (at_ev ν b) ≤ hi → z = (at_ev ν a).tdiv (at_ev ν b)) (hr : at_ev ν a ≤ hi) (hl : lo ≤ 0) : at_ev ν b ≠ 0 ∧ at_Sp ν P q z := by
  unfold at_dv at h
  cases h0 : at_n0 P b with
  | false => rw [h0] at h; cases h
  | true =>
    have hn := at_n0_ok hP.1 h0
    refine ⟨hn, ?_⟩
    rw [h0] at h
    dsimp only [Bool.not_true, cond_false] at h
    cases hc : at_ps P b && at_nn P a with
    | true =>
      rw [hc] at h
      simp only [Bool.and_eq_true] at hc
      have hbp := at_ps_ok hP.1 hc.1
      have hap := at_nn_ok hP.1 hc.2
      have e := Int.tdiv_eq_ediv_of_nonneg (b := at_ev ν b) hap
      rw [e] at he
      dsimp only [cond_true] at h
      have al := at_lo_le hP.1.1 a
      have ah := at_hi_le hP.1.1 a
      have bl := at_lo_le hP.1.1 b
      have bh := at_hi_le hP.1.1 b
      have hq0 : 0 ≤ at_ev ν a / at_ev ν b := Int.ediv_nonneg hap (by omega)
      have hqx : at_ev ν a / at_ev ν b ≤ at_ev ν a := Int.ediv_le_self _ hap
      have hz := he (by omega) (by omega)
      have p1 : max (at_lo P.1 a) 0 / max (at_hi P.1 b) 1 ≤ z := by
        rw [hz]
        refine (Int.le_ediv_iff_mul_le hbp).mpr ?_
        have k1 : max (at_lo P.1 a) 0 / max (at_hi P.1 b) 1 * max (at_hi P.1 b) 1 ≤ max (at_lo P.1 a) 0 := Int.ediv_mul_le _ (by omega)
        have k2 : max (at_lo P.1 a) 0 / max (at_hi P.1 b) 1 * at_ev ν b ≤ max (at_lo P.1 a) 0 / max (at_hi P.1 b) 1 * max (at_hi P.1 b) 1 := Int.mul_le_mul_of_nonneg_left (by omega) (Int.ediv_nonneg (by omega) (by omega))
        omega
      have p2' : z ≤ at_hi P.1 a / max (at_lo P.1 b) 1 := by
        rw [hz]
        refine (Int.le_ediv_iff_mul_le (by omega)).mpr ?_
        have k1 : at_ev ν a / at_ev ν b * at_ev ν b ≤ at_ev ν a := Int.ediv_mul_le _ (by omega)
        have k2 : at_ev ν a / at_ev ν b * max (at_lo P.1 b) 1 ≤ at_ev ν a / at_ev ν b * at_ev ν b := Int.mul_le_mul_of_nonneg_left (by omega) hq0
        omega
      have p2 : z ≤ (bif at_le P (at_sub a (at_mul 1000 b)) then min (at_hi P.1 a / max (at_lo P.1 b) 1) 1000 else at_hi P.1 a / max (at_lo P.1 b) 1) := by
        cases hk : at_le P (at_sub a (at_mul 1000 b)) with
        | false => exact p2'
        | true =>
          have := at_le_ok hP.1 hk
          rw [at_ev_sub, at_ev_mul] at this
          have : z ≤ 1000 := by
            rw [hz]
            have : at_ev ν a / at_ev ν b ≤ 1000 * at_ev ν b / at_ev ν b := Int.ediv_le_ediv hbp (by omega)
            rw [Int.mul_ediv_cancel _ hn] at this
            exact this
          show z ≤ min _ _
          omega
      generalize (bif at_le P (at_sub a (at_mul 1000 b)) then min (at_hi P.1 a / max (at_lo P.1 b) 1) 1000 else at_hi P.1 a / max (at_lo P.1 b) 1) = hh at p2 h
      generalize max (at_lo P.1 a) 0 / max (at_hi P.1 b) 1 = ll at p1 h
      obtain ⟨ν', hx, hw, hv⟩ := at_new_X hP p1 p2
      have hlen := hx.2.1
      rcases e1 : at_ic P.1 b with _ | d
      · rw [e1] at h
        cases h
        exact ⟨ν', hx, hw, hv⟩
      · rw [e1] at h
        have ed := at_ic_ok hP.1.1 e1
        have hd : 0 < d := by omega
        have hdz : d * at_ev ν' (at_nv P) ≤ at_ev ν' a := by
          rw [hv, at_ev_ag hx.1 ha, hz, ← ed]
          exact Int.mul_ediv_self_le hn
        have hwa := ha.mono hlen
        have hwz : at_wf (at_new P ll hh).1.length (at_sub (at_mul d (at_nv P)) a) := at_wf_sub (at_wf_mul hw) hwa
        obtain ⟨k1, k2⟩ := at_try_X hx.2.2 hwz (by rw [at_ev_sub, at_ev_mul]; omega)
        dsimp only at h
        split at h
        · rename_i x
          cases h
          have hxl : x < P.1.length := ha (1, x) List.mem_cons_self
          obtain ⟨k3, k4⟩ := at_dq_ok (z := at_nv P) (x := x) hd P.2.1 (at_try (at_new P ll hh) (at_sub (at_mul d (at_nv P)) (0, [(1, x)]))) k1.2.2 (by rw [k2]; exact hw) (by rw [k2]; omega) (fun c hc => by
            refine ⟨?_, ?_⟩
            · rw [at_ev_ag hx.1 (hP.2.1 c hc)]; exact hP.1.2.1 c hc
            · rw [k2]; exact (hP.2.1 c hc).mono hlen) (by
            have : at_ev ν' (0, [(1, x)]) = ν' x := at_ev_v ν' x
            omega)
          exact ⟨ν', (hx.trans k1).trans k3, by dsimp only; rw [k4, k2]; exact hw, hv⟩
        · cases h
          exact ⟨ν', hx.trans k1, by dsimp only; rw [k2]; exact hw, hv⟩
    | false =>
      rw [hc] at h
      dsimp only [cond_false] at h
      have ah := at_hi_le hP.1.1 a
      have al := at_lo_le hP.1.1 a
      have bl := at_lo_le hP.1.1 b
      cases hm : decide (max (at_hi P.1 a) (-at_lo P.1 a) / max (at_lo P.1 b) 1 ≤ hi) && decide (lo ≤ -(max (at_hi P.1 a) (-at_lo P.1 a) / max (at_lo P.1 b) 1)) with
      | false =>
        rw [hm] at h
        cases h
        exact at_fr_ok hP h1 h2
      | true =>
        rw [hm] at h
        cases h
        simp only [Bool.and_eq_true, decide_eq_true_eq] at hm
        obtain ⟨k1, k2⟩ := at_tdiv_abs (x := at_ev ν a) (m := max (at_hi P.1 a) (-at_lo P.1 a)) (d := max (at_lo P.1 b) 1) hn (by omega) (by omega) (by omega) (by omega)
        generalize max (at_hi P.1 a) (-at_lo P.1 a) / max (at_lo P.1 b) 1 = mm at k1 k2 hm ⊢
        have := he (by omega) (by omega)
        exact at_fr_ok hP (by omega) (by omega)
/-- a remainder (the number's own sign) -/
def at_rm (P : at_P) (a b : at_A) (lo hi : Int) : Option (at_P × at_A) :=
  bif !at_n0 P b then none
  else bif decide (0 < at_lo P.1 b) && (decide (at_hi P.1 b ≤ hi) && decide (lo ≤ -at_hi P.1 b)) then (bif at_nn P a then some (at_fr P 0 (at_hi P.1 b - 1)) else some (at_fr P (-(at_hi P.1 b - 1)) (at_hi P.1 b - 1)))
  else some (at_fr P lo hi)
theorem at_rm_ok {ν : Nat → Int} {P : at_P} (hP : at_KP ν P) {a b : at_A} {lo hi z : Int} {q : at_P × at_A} (h : at_rm P a b lo hi = some q) (h1 : lo ≤ z) (h2 : z ≤ hi) (he : lo ≤ (at_ev ν a).tmod (at_ev ν b) → (at_ev ν a).tmod (at_ev ν b) ≤ hi → z = (at_ev ν a).tmod (at_ev ν b)) : at_ev ν b ≠ 0 ∧ at_Sp ν P q z := by
  unfold at_rm at h
  cases h0 : at_n0 P b with
  | false => rw [h0] at h; cases h
  | true =>
    have hn := at_n0_ok hP.1 h0
    refine ⟨hn, ?_⟩
    rw [h0] at h
    replace h : (bif decide (0 < at_lo P.1 b) && (decide (at_hi P.1 b ≤ hi) && decide (lo ≤ -at_hi P.1 b)) then (bif at_nn P a then some (at_fr P 0 (at_hi P.1 b - 1)) else some (at_fr P (-(at_hi P.1 b - 1)) (at_hi P.1 b - 1))) else some (at_fr P lo hi)) = some q := h
    cases hc : decide (0 < at_lo P.1 b) && (decide (at_hi P.1 b ≤ hi) && decide (lo ≤ -at_hi P.1 b)) with
    | false =>
      rw [hc] at h
      cases h
      exact at_fr_ok hP h1 h2
    | true =>
      rw [hc] at h
      simp only [Bool.and_eq_true, decide_eq_true_eq] at hc
      obtain ⟨c1, c2, c3⟩ := hc
      have bl := at_lo_le hP.1.1 b
      have bh := at_hi_le hP.1.1 b
      have t1 := Int.tmod_lt_of_pos (at_ev ν a) (by omega : 0 < at_ev ν b)
      have t2 : -at_ev ν b < (at_ev ν a).tmod (at_ev ν b) := by
        have h5 := Int.tmod_lt_of_pos (-at_ev ν a) (by omega : 0 < at_ev ν b)
        rw [Int.neg_tmod] at h5
        omega
      have hz := he (by omega) (by omega)
      dsimp only [cond_true] at h
      cases hx : at_nn P a with
      | true =>
        rw [hx] at h
        cases h
        have := at_nn_ok hP.1 hx
        have := Int.tmod_nonneg (at_ev ν b) this
        exact at_fr_ok hP (by omega) (by omega)
      | false =>
        rw [hx] at h
        cases h
        exact at_fr_ok hP (by omega) (by omega)
/-- bits that both have -/
def at_an (P : at_P) (a b : at_A) (lo hi : Int) : at_P × at_A :=
  bif decide (0 ≤ at_lo P.1 b) then (at_try (at_new P 0 (at_hi P.1 b)) (at_sub (at_nv P) b), at_nv P)
  else bif decide (0 ≤ at_lo P.1 a) then (at_try (at_new P 0 (at_hi P.1 a)) (at_sub (at_nv P) a), at_nv P)
  else at_fr P lo hi
theorem at_an_ok {ν : Nat → Int} {P : at_P} (hP : at_KP ν P) {a b : at_A} (ha : at_wf P.1.length a) (hb : at_wf P.1.length b) {lo hi z : Int} (h1 : lo ≤ z) (h2 : z ≤ hi) (ea : 0 ≤ at_ev ν a → 0 ≤ z ∧ z ≤ at_ev ν a) (eb : 0 ≤ at_ev ν b → 0 ≤ z ∧ z ≤ at_ev ν b) : at_Sp ν P (at_an P a b lo hi) z := by
  have key : ∀ c : at_A, at_wf P.1.length c → (0 ≤ at_ev ν c → 0 ≤ z ∧ z ≤ at_ev ν c) → 0 ≤ at_lo P.1 c → at_Sp ν P (at_try (at_new P 0 (at_hi P.1 c)) (at_sub (at_nv P) c), at_nv P) z := by
    intro c hc ec hl
    have cl := at_lo_le hP.1.1 c
    have ch := at_hi_le hP.1.1 c
    obtain ⟨p1, p2⟩ := ec (by omega)
    obtain ⟨ν', hx, hw, hv⟩ := at_new_X hP p1 (by omega : z ≤ at_hi P.1 c)
    obtain ⟨k1, k2⟩ := at_try_X hx.2.2 (at_wf_sub hw (hc.mono hx.2.1)) (by rw [at_ev_sub, hv, at_ev_ag hx.1 hc]; omega)
    exact ⟨ν', hx.trans k1, by dsimp only; rw [k2]; exact hw, hv⟩
  unfold at_an
  cases h3 : decide (0 ≤ at_lo P.1 b) with
  | true => exact key b hb eb (of_decide_eq_true h3)
  | false =>
    dsimp only [cond_false]
    cases h4 : decide (0 ≤ at_lo P.1 a) with
    | true => exact key a ha ea (of_decide_eq_true h4)
    | false => exact at_fr_ok hP h1 h2

end

/-! 57.mem.lean.txt -/
section
/-! ===== the looker's memory: ranges of words, what is known of single words, what was written ===== -/
def at_TA : Nat := 79
/-- a region of words: its mark (1 .. 4: what a cell of the reference keeps; 5: a mark's count), base, stride, how many, how wide, least, most -/
abbrev at_R : Type := Nat × Int × Int × Int × Int × Int × Int
def at_mem (j : Int) (r : at_R) : Prop := ∃ o i : Int, 0 ≤ o ∧ o ≤ r.2.2.2.1 - 1 ∧ 0 ≤ i ∧ i ≤ r.2.2.2.2.1 - 1 ∧ j = r.2.1 + r.2.2.1 * o + i
def at_fi (S : Int) (b : Bool) (l : List (Int × Nat)) : List (Int × Nat) := l.filter (fun t => bif decide (t.1 % S = 0) then b else !b)
/-- the part within a stride: base, its least, its most; how many strides -/
def at_q (sy : List (Int × Int)) (idx : at_A) (base S : Int) : Int := (idx.1 - base + at_los sy (at_fi S false idx.2)) / S
/-- the outer number of an index that stands wholly in a region -/
def at_rin (sy : List (Int × Int)) (idx : at_A) (base S n m : Int) : Option at_A :=
  bif decide (S = 0) then (bif decide (base ≤ at_lo sy idx) && decide (at_hi sy idx ≤ base + m - 1) && decide (1 ≤ n) then some (at_c 0) else none)
  else bif decide (0 < S) then
    (fun (q : Int) (o : at_A) => bif decide (at_his sy (at_fi S false idx.2) + (idx.1 - base) - q * S ≤ m - 1) && (decide (0 ≤ at_lo sy o) && decide (at_hi sy o ≤ n - 1)) then some o else none) (at_q sy idx base S) (at_q sy idx base S, (at_fi S true idx.2).map (fun t => (t.1 / S, t.2)))
  else none
/-- an index that never stands in a region -/
def at_dj (sy : List (Int × Int)) (idx : at_A) (r : at_R) : Bool :=
  (decide (0 ≤ r.2.2.1) && (decide (at_hi sy idx < r.2.1) || decide (r.2.1 + r.2.2.1 * (r.2.2.2.1 - 1) + (r.2.2.2.2.1 - 1) < at_lo sy idx)))
  || (decide (0 < r.2.2.1) && (fun q : Int => decide (r.2.2.2.2.1 - 1 < at_los sy (at_fi r.2.2.1 false idx.2) + (idx.1 - r.2.1) - q * r.2.2.1) && decide (at_his sy (at_fi r.2.2.1 false idx.2) + (idx.1 - r.2.1) - q * r.2.2.1 < r.2.2.1)) (at_q sy idx r.2.1 r.2.2.1))
theorem at_evl_cons (ν : Nat → Int) (t : Int × Nat) (l : List (Int × Nat)) : at_evl ν (t :: l) = t.1 * ν t.2 + at_evl ν l := rfl
theorem at_fi_sum (ν : Nat → Int) (S : Int) (l : List (Int × Nat)) : at_evl ν l = at_evl ν (at_fi S true l) + at_evl ν (at_fi S false l) := by
  induction l with
  | nil => rfl
  | cons t l ih =>
    unfold at_fi at ih ⊢
    cases h : decide (t.1 % S = 0) with
    | true =>
      rw [List.filter_cons_of_pos (by simp [h]), List.filter_cons_of_neg (by simp [h])]
      rw [at_evl_cons, at_evl_cons, ih]
      omega
    | false =>
      rw [List.filter_cons_of_neg (by simp [h]), List.filter_cons_of_pos (by simp [h])]
      rw [at_evl_cons, at_evl_cons, ih]
      omega
theorem at_fi_div {ν : Nat → Int} {S : Int} {l : List (Int × Nat)} : at_evl ν (at_fi S true l) = S * at_evl ν ((at_fi S true l).map (fun t => (t.1 / S, t.2))) := by
  refine at_evl_div (fun t ht => ?_)
  unfold at_fi at ht
  have := (List.mem_filter.mp ht).2
  refine Int.dvd_of_emod_eq_zero ?_
  cases h : decide (t.1 % S = 0) with
  | true => exact of_decide_eq_true h
  | false => rw [h] at this; cases this
theorem at_rin_ok {ν : Nat → Int} {sy : List (Int × Int)} (hR : at_Rg ν sy) {idx o : at_A} {base S n m : Int} (h : at_rin sy idx base S n m = some o) : ∃ i : Int, 0 ≤ at_ev ν o ∧ at_ev ν o ≤ n - 1 ∧ 0 ≤ i ∧ i ≤ m - 1 ∧ at_ev ν idx = base + S * at_ev ν o + i := by
  unfold at_rin at h
  cases h0 : decide (S = 0) with
  | true =>
    rw [h0] at h
    dsimp only [cond_true] at h
    obtain ⟨hb, h⟩ := am_bif h
    cases h
    simp only [Bool.and_eq_true, decide_eq_true_eq] at hb
    have e := of_decide_eq_true h0
    have := at_lo_le hR idx
    have := at_hi_le hR idx
    refine ⟨at_ev ν idx - base, ?_, ?_, by omega, by omega, ?_⟩
    · rw [at_ev_c]; omega
    · rw [at_ev_c]; omega
    · rw [at_ev_c, e]; omega
  | false =>
    rw [h0] at h
    dsimp only [cond_false] at h
    cases hS : decide (0 < S) with
    | false => rw [hS] at h; cases h
    | true =>
      have hS := of_decide_eq_true hS
      rw [decide_eq_true hS] at h
      dsimp only [cond_true] at h
      obtain ⟨hb, h⟩ := am_bif h
      cases h
      simp only [Bool.and_eq_true, decide_eq_true_eq] at hb
      obtain ⟨b1, b2, b3⟩ := hb
      have l1 := at_los_le hR (at_fi S false idx.2)
      have l2 := at_his_le hR (at_fi S false idx.2)
      have ol := at_lo_le hR (at_q sy idx base S, (at_fi S true idx.2).map (fun t => (t.1 / S, t.2)))
      have oh := at_hi_le hR (at_q sy idx base S, (at_fi S true idx.2).map (fun t => (t.1 / S, t.2)))
      have e1 := at_fi_sum ν S idx.2
      have e2 := at_fi_div (ν := ν) (S := S) (l := idx.2)
      have q1 : at_q sy idx base S * S ≤ idx.1 - base + at_los sy (at_fi S false idx.2) := Int.ediv_mul_le _ (by omega)
      refine ⟨at_evl ν (at_fi S false idx.2) + (idx.1 - base) - at_q sy idx base S * S, by omega, by omega, by omega, by omega, ?_⟩
      show idx.1 + at_evl ν idx.2 = base + S * (at_q sy idx base S + at_evl ν ((at_fi S true idx.2).map (fun t => (t.1 / S, t.2)))) + _
      rw [e1, e2, Int.mul_add, Int.mul_comm S (at_q sy idx base S)]
      omega
theorem at_rin_wf {k : Nat} {sy : List (Int × Int)} {idx o : at_A} {base S n m : Int} (hw : at_wf k idx) (h : at_rin sy idx base S n m = some o) : at_wf k o := by
  unfold at_rin at h
  cases h0 : decide (S = 0) with
  | true =>
    rw [h0] at h
    dsimp only [cond_true] at h
    obtain ⟨hb, h⟩ := am_bif h
    cases h
    exact at_wf_c
  | false =>
    rw [h0] at h
    dsimp only [cond_false] at h
    cases hS : decide (0 < S) with
    | false => rw [hS] at h; cases h
    | true =>
      rw [hS] at h
      dsimp only [cond_true] at h
      obtain ⟨hb, h⟩ := am_bif h
      cases h
      intro t ht
      obtain ⟨s, hs, rfl⟩ := List.mem_map.mp ht
      exact hw s (List.mem_filter.mp hs).1
theorem at_dj_ok {ν : Nat → Int} {sy : List (Int × Int)} (hR : at_Rg ν sy) {idx : at_A} {r : at_R} (h : at_dj sy idx r = true) : ¬ at_mem (at_ev ν idx) r := by
  obtain ⟨w, base, S, n, m, lo, hi⟩ := r
  rintro ⟨o, i, h1, h2, h3, h4, h5⟩
  dsimp only at h2 h4 h5
  unfold at_dj at h
  simp only [Bool.or_eq_true, Bool.and_eq_true, decide_eq_true_eq] at h
  have a1 := at_lo_le hR idx
  have a2 := at_hi_le hR idx
  rcases h with ⟨h, h' | h'⟩ | ⟨hS, h6, h7⟩
  · have := Int.mul_nonneg h h1
    omega
  · have : S * o ≤ S * (n - 1) := Int.mul_le_mul_of_nonneg_left h2 h
    omega
  · have l1 := at_los_le hR (at_fi S false idx.2)
    have l2 := at_his_le hR (at_fi S false idx.2)
    have e1 := at_fi_sum ν S idx.2
    have e2 := at_fi_div (ν := ν) (S := S) (l := idx.2)
    have e0 : at_ev ν idx = idx.1 + at_evl ν idx.2 := rfl
    generalize at_evl ν ((at_fi S true idx.2).map (fun t => (t.1 / S, t.2))) = z at e2
    generalize at_evl ν (at_fi S false idx.2) = y at l1 l2 e1
    generalize at_evl ν (at_fi S true idx.2) = x at e1 e2
    generalize at_q sy idx base S = q at h6 h7
    have e3 : S * (z + q - o) = i - (y + (idx.1 - base) - q * S) := by
      rw [Int.mul_sub, Int.mul_add, Int.mul_comm S q]
      omega
    have h8 : S * (z + q - o) < 0 := by omega
    have h9 : -S < S * (z + q - o) := by omega
    have h10 : z + q - o < 0 := by
      rcases Int.lt_or_le (z + q - o) 0 with h | h
      · exact h
      · have := Int.mul_nonneg (Int.le_of_lt hS) h
        omega
    have h11 : S * (z + q - o) ≤ S * (-1) := Int.mul_le_mul_of_nonneg_left (by omega) (by omega)
    omega

end

/-! 58.regions.lean.txt -/
section
/-! ===== printed by wip/gen/regions.py: the ranges of words, by kinds ===== -/
def at_rg_2 : List (List (List at_R)) := [[[], [(0, 5, 0, 1, 1, 0, 16)], [], [(0, 6, 0, 1, 1, 0, 6), (0, 7, 0, 1, 1, 0, 24), (0, 8, 0, 1, 1, 0, 8)], [], [], [(0, 0, 0, 1, 24, 0, 999)], [], []],
  [[(0, 3, 5, 8, 1, 0, 29)], [(0, 6, 0, 1, 1, 0, 1)], [], [], [(0, 0, 0, 1, 1, 24, 24), (0, 2, 0, 1, 1, 0, 23), (0, 3, 0, 1, 1, 0, 24)], [], [], [(0, 0, 0, 1, 1, 32, 32), (0, 2, 0, 1, 1, 0, 31), (0, 3, 0, 1, 1, 0, 32)], []],
  [[(0, 0, 0, 1, 1, 0, 9999), (0, 2, 0, 1, 1, 0, 35996400), (0, 3, 0, 1, 1, 0, 9999000), (0, 10, 0, 1, 1, 0, 1)], [(0, 2, 0, 1, 1, 0, 32)], [(0, 0, 0, 1, 32, 0, 9999000)], [], [(0, 2, 0, 1, 1, 0, 16)], [], [], [(0, 5, 0, 1, 1, 0, 16)], []],
  [[(0, 6, 0, 1, 1, 0, 6), (0, 7, 0, 1, 1, 0, 24), (0, 8, 0, 1, 1, 0, 8)], [], [], [(0, 0, 0, 1, 24, 0, 999)], [], [], [(0, 3, 5, 8, 1, 0, 29)], [(0, 6, 0, 1, 1, 0, 1)], []],
  [[], [(0, 0, 0, 1, 1, 24, 24), (0, 2, 0, 1, 1, 0, 23), (0, 3, 0, 1, 1, 0, 24)], [], [], [(0, 0, 0, 1, 1, 32, 32), (0, 2, 0, 1, 1, 0, 31), (0, 3, 0, 1, 1, 0, 32)], [], [(0, 0, 0, 1, 1, 0, 9999), (0, 2, 0, 1, 1, 0, 35996400), (0, 3, 0, 1, 1, 0, 9999000), (0, 10, 0, 1, 1, 0, 1)], [(0, 2, 0, 1, 1, 0, 32)], [(0, 0, 0, 1, 32, 0, 9999000)]],
  [[], [(0, 2, 0, 1, 1, 0, 16)], [], [], [(0, 5, 0, 1, 1, 0, 16)], [], [(0, 6, 0, 1, 1, 0, 6), (0, 7, 0, 1, 1, 0, 24), (0, 8, 0, 1, 1, 0, 8)], [], []],
  [[(0, 0, 0, 1, 24, 0, 999)], [], [], [(0, 3, 5, 8, 1, 0, 29)], [(0, 6, 0, 1, 1, 0, 1)], [], [], [(0, 0, 0, 1, 1, 24, 24), (0, 2, 0, 1, 1, 0, 23), (0, 3, 0, 1, 1, 0, 24)], []],
  [[], [(0, 0, 0, 1, 1, 32, 32), (0, 2, 0, 1, 1, 0, 31), (0, 3, 0, 1, 1, 0, 32)], [], [(0, 0, 0, 1, 1, 0, 9999), (0, 2, 0, 1, 1, 0, 35996400), (0, 3, 0, 1, 1, 0, 9999000), (0, 10, 0, 1, 1, 0, 1)], [(0, 2, 0, 1, 1, 0, 32)], [(0, 0, 0, 1, 32, 0, 9999000)], [], [(0, 2, 0, 1, 1, 0, 16)], []],
  [[], [(0, 1, 0, 1, 1, 0, 19), (0, 2, 0, 1, 1, 0, 20)], [], [], [(0, 4, 0, 1, 1, 0, 1), (0, 6, 0, 1, 1, 0, 1), (0, 7, 0, 1, 1, 0, 1)], [(0, 0, 0, 1, 90, -99999, 99999)], [], [(0, 0, 0, 1, 1, 0, 20), (0, 1, 0, 1, 1, 0, 19), (0, 2, 0, 1, 1, 0, 16), (0, 17, 0, 1, 1, 0, 6), (0, 18, 0, 1, 1, 0, 8), (0, 19, 0, 1, 1, 0, 24), (0, 20, 0, 1, 1, 0, 24), (0, 21, 0, 1, 1, 0, 32), (0, 82, 5, 8, 1, 0, 29), (0, 120, 2, 24, 1, 0, 99), (5, 341, 35, 3, 1, 0, 16), (1, 444, 61, 16, 1, 0, 9999), (2, 445, 61, 16, 1, -2147483648, 2147483647), (3, 450, 61, 16, 1, 0, 9999), (4, 454, 61, 16, 1, 0, 32), (0, 461, 61, 16, 32, 0, 1000), (0, 460, 61, 16, 1, -1, 1000), (0, 34, 0, 1, 30, -99999, 99999), (0, 83, 5, 8, 1, -99999, 99999), (0, 119, 2, 24, 1, -99999, 99999)], []],
  [[], [], []]]
def at_rg_l : List (List at_R) := at_rg_2.flatten
def at_rg (t : Nat) : List at_R := (at_rg_2.getD (t / 9) []).getD (t % 9) []
theorem at_rg_out {t : Nat} (h : 84 ≤ t) : at_rg t = [] := by
  unfold at_rg
  by_cases h2 : 90 ≤ t
  · have e : at_rg_2.getD (t / 9) [] = [] := by
      rw [List.getD_eq_getElem?_getD, List.getElem?_eq_none (by show 10 ≤ t / 9; omega)]
      rfl
    rw [e]
    rfl
  · have hc : t = 84 ∨ t = 85 ∨ t = 86 ∨ t = 87 ∨ t = 88 ∨ t = 89 := by omega
    rcases hc with rfl | rfl | rfl | rfl | rfl | rfl <;> rfl

end

/-! 59.load.lean.txt -/
section
/-! ===== the looker's memory: words that are read ===== -/
abbrev at_F : Type := Nat × at_A × at_A × at_A
abbrev at_W : Type := Nat × Bool × Int × Int
abbrev at_S : Type := at_P × List at_F × List at_W × List (Nat × at_A)
def at_ff : List at_F → Nat → at_A → at_A → Option at_A
  | [], _, _, _ => none
  | f :: r, t, pl, idx => bif Nat.beq f.1 t && (at_eq f.2.1 pl && at_eq f.2.2.1 idx) then some f.2.2.2 else at_ff r t pl idx
def at_pf (S : at_S) (q : at_P × at_A) (t : Nat) (pl idx : at_A) : at_S × at_A := ((q.1, (t, pl, idx, q.2) :: S.2.1, S.2.2), q.2)
/-- how many cells the reference has -/
def at_cs (S : at_S) : at_S × at_A := match at_ff S.2.1 at_TA (at_c 280) (at_c 2) with
  | some v => (S, v)
  | none => at_pf S (at_fr S.1 0 16) at_TA (at_c 280) (at_c 2)
def at_bk (S : at_S) (w : Nat) (o : at_A) : Bool := S.2.2.2.any (fun b => Nat.beq b.1 w && !at_nz S.1 (at_sub b.2 o))
/-- a word of a cell of the reference: narrower, where the cell is told and whole -/
def at_ldT (S : at_S) (pl idx : at_A) (w : Nat) (lo hi : Int) (o : at_A) : at_S × at_A :=
  (fun s : at_S × at_A => at_pf s.1 (at_fr s.1.1 (bif at_le s.1.1 (at_add (at_sub o s.2) (at_c 1)) && !at_bk s.1 w o then (bif Nat.beq w 4 then 1 else 100) else lo) hi) at_TA pl idx) (at_cs S)
/-- the capacity beside a charge -/
def at_ldK (S : at_S) (pl idx o : at_A) : at_S × at_A := match at_ff S.2.1 at_TA pl (at_sub idx (at_c 1)) with
  | some c => (S, c)
  | none => at_ldT S pl (at_sub idx (at_c 1)) 1 0 9999 o
def at_ldC (S : at_S) (pl idx : at_A) (lo hi : Int) (o : at_A) : at_S × at_A :=
  (fun s : at_S × at_A => bif at_le s.1.1 (at_add (at_sub o s.2) (at_c 1)) && (!at_bk s.1 2 o && !at_bk s.1 1 o) then
      (fun c : at_S × at_A => (fun v : at_S × at_A => ((at_try v.1.1 (at_sub v.2 (at_mul 3600 c.2)), v.1.2), v.2)) (at_pf c.1 (at_fr c.1.1 0 35996400) at_TA pl idx)) (at_ldK s.1 pl idx o)
    else at_pf s.1 (at_fr s.1.1 lo hi) at_TA pl idx) (at_cs S)
def at_ldM (S : at_S) (pl idx : at_A) (lo hi : Int) : at_S × at_A :=
  (fun s : at_S × at_A => (fun v : at_S × at_A => ((at_try v.1.1 (at_sub v.2 s.2), v.1.2), v.2)) (at_pf s.1 (at_fr s.1.1 lo hi) at_TA pl idx)) (at_cs S)
def at_fd (sy : List (Int × Int)) (idx : at_A) : List at_R → Option (at_R × at_A)
  | [] => none
  | r :: rs => match at_rin sy idx r.2.1 r.2.2.1 r.2.2.2.1 r.2.2.2.2.1 with
    | some o => some (r, o)
    | none => at_fd sy idx rs
def at_ld (S : at_S) (t : Nat) (pl idx : at_A) : at_S × at_A := match at_ff S.2.1 t pl idx with
  | some v => (S, v)
  | none => match at_fd S.1.1 idx (at_rg t) with
    | none => at_pf S (at_fr S.1 (-2147483648) 2147483647) t pl idx
    | some (r, o) => match r.1 with
      | 0 => at_pf S (at_fr S.1 r.2.2.2.2.2.1 r.2.2.2.2.2.2) t pl idx
      | 2 => at_ldC S pl idx r.2.2.2.2.2.1 r.2.2.2.2.2.2 o
      | 5 => at_ldM S pl idx r.2.2.2.2.2.1 r.2.2.2.2.2.2
      | w => at_ldT S pl idx w r.2.2.2.2.2.1 r.2.2.2.2.2.2 o
def at_FT (ν : Nat → Int) (m : fl_M) (f : at_F) : Prop := ∃ p i : Nat, at_ev ν f.2.1 = p ∧ at_ev ν f.2.2.1 = i ∧ fk_K p = f.1 ∧ (m.1 p i).toInt = at_ev ν f.2.2.2
def at_FW (n : Nat) (f : at_F) : Prop := at_wf n f.2.1 ∧ at_wf n f.2.2.1 ∧ at_wf n f.2.2.2
/-- all words are in their ranges -/
def at_RG (m : fl_M) : Prop := ∀ p, p < fl_N m.2.2 → ∀ r ∈ at_rg (fk_K p), ∀ j : Nat, at_mem j r → r.2.2.2.2.2.1 ≤ (m.1 p j).toInt ∧ (m.1 p j).toInt ≤ r.2.2.2.2.2.2
def at_nb (ν : Nat → Int) (brk : List (Nat × at_A)) (w : Nat) (c : Int) : Prop := ∀ b ∈ brk, b.1 = w → at_ev ν b.2 ≠ c
def at_w (m : fl_M) (j : Nat) : Int := (m.1 280 j).toInt
/-- what holds of the cells that are told -/
def at_RL (ν : Nat → Int) (brk : List (Nat × at_A)) (m : fl_M) : Prop := (∀ c : Nat, c < 16 → (c : Int) < at_w m 2 → (at_nb ν brk 1 c → 100 ≤ at_w m (444 + 61 * c)) ∧ (at_nb ν brk 3 c → 100 ≤ at_w m (450 + 61 * c)) ∧ (at_nb ν brk 4 c → 1 ≤ at_w m (454 + 61 * c)) ∧ (at_nb ν brk 2 c → 0 ≤ at_w m (445 + 61 * c) ∧ at_w m (445 + 61 * c) ≤ 3600 * at_w m (444 + 61 * c))) ∧ ∀ k : Nat, k < 3 → at_w m (341 + 35 * k) ≤ at_w m 2
def at_cv (w : at_W) (t : Nat) (j : Int) : Prop := w.1 = t ∧ (if w.2.1 then ∃ o : Int, 0 ≤ o ∧ o ≤ 15 ∧ w.2.2.1 ≤ j - 444 - 61 * o ∧ j - 444 - 61 * o ≤ w.2.2.2 else w.2.2.1 ≤ j ∧ j ≤ w.2.2.2)
def at_MD (m0 m : fl_M) (wr : List at_W) : Prop := m0.2.2 ≤ m.2.2 ∧ ∀ p j : Nat, m.1 p j ≠ m0.1 p j → ∃ w ∈ wr, at_cv w (fk_K p) j
def at_GS (X : fl_M → Prop) (m0 m : fl_M) (ν : Nat → Int) (S : at_S) : Prop := at_KP ν S.1 ∧ (∀ f ∈ S.2.1, at_FT ν m f ∧ at_FW S.1.1.length f) ∧ (∀ b ∈ S.2.2.2, at_wf S.1.1.length b.2) ∧ at_RG m ∧ at_RL ν S.2.2.2 m ∧ X m ∧ at_MD m0 m S.2.2.1
/-- a word that was read stands for z -/
def at_SpS (X : fl_M → Prop) (m0 m : fl_M) (ν : Nat → Int) (S : at_S) (q : at_S × at_A) (z : Int) : Prop := ∃ ν', at_ag S.1.1.length ν ν' ∧ S.1.1.length ≤ q.1.1.1.length ∧ at_GS X m0 m ν' q.1 ∧ at_wf q.1.1.1.length q.2 ∧ at_ev ν' q.2 = z ∧ q.1.2.2 = S.2.2
section ATL
variable {X : fl_M → Prop} {m0 m : fl_M} {ν ν' : Nat → Int} {S : at_S}
theorem at_RL.ag {n : Nat} {brk : List (Nat × at_A)} (h : at_RL ν brk m) (hag : at_ag n ν ν') (hb : ∀ b ∈ brk, at_wf n b.2) : at_RL ν' brk m := by
  have e : ∀ w c, at_nb ν' brk w c → at_nb ν brk w c := fun w c h b hb' hw => by
    have := h b hb' hw
    rwa [at_ev_ag hag (hb b hb')] at this
  refine ⟨fun c hc hl => ?_, h.2⟩
  obtain ⟨h1, h2, h3, h4⟩ := h.1 c hc hl
  exact ⟨fun k => h1 (e _ _ k), fun k => h2 (e _ _ k), fun k => h3 (e _ _ k), fun k => h4 (e _ _ k)⟩
theorem at_GS.ext {P' : at_P} (h : at_GS X m0 m ν S) (hx : at_X ν S.1 ν' P') : at_GS X m0 m ν' (P', S.2) := by
  obtain ⟨h1, h2, h3, h4, h5, h6, h7⟩ := h
  refine ⟨hx.2.2, fun f hf => ?_, fun b hb => (h3 b hb).mono hx.2.1, h4, h5.ag hx.1 h3, h6, h7⟩
  obtain ⟨⟨p, i, e1, e2, e3, e4⟩, w1, w2, w3⟩ := h2 f hf
  exact ⟨⟨p, i, by rw [at_ev_ag hx.1 w1]; exact e1, by rw [at_ev_ag hx.1 w2]; exact e2, e3, by rw [at_ev_ag hx.1 w3]; exact e4⟩, w1.mono hx.2.1, w2.mono hx.2.1, w3.mono hx.2.1⟩
theorem at_GS.fact {f : at_F} (h : at_GS X m0 m ν S) (hf : at_FT ν m f) (hw : at_FW S.1.1.length f) : at_GS X m0 m ν (S.1, f :: S.2.1, S.2.2) := by
  obtain ⟨h1, h2, h3, h4, h5, h6, h7⟩ := h
  refine ⟨h1, fun g hg => ?_, h3, h4, h5, h6, h7⟩
  rcases List.mem_cons.mp hg with rfl | hg
  · exact ⟨hf, hw⟩
  · exact h2 g hg
theorem at_pf_ok (h : at_GS X m0 m ν S) {lo hi : Int} {t p i : Nat} {pl idx : at_A} (wp : at_wf S.1.1.length pl) (wi : at_wf S.1.1.length idx) (ep : at_ev ν pl = p) (ei : at_ev ν idx = i) (hk : fk_K p = t) (h1 : lo ≤ (m.1 p i).toInt) (h2 : (m.1 p i).toInt ≤ hi) : at_SpS X m0 m ν S (at_pf S (at_fr S.1 lo hi) t pl idx) (m.1 p i).toInt := by
  obtain ⟨ν', hx, hw, hv⟩ := at_fr_ok h.1 h1 h2
  have hg := h.ext hx
  refine ⟨ν', hx.1, hx.2.1, hg.fact ⟨p, i, ?_, ?_, hk, hv.symm⟩ ⟨wp.mono hx.2.1, wi.mono hx.2.1, hw⟩, hw, hv, rfl⟩
  · rw [at_ev_ag hx.1 wp]; exact ep
  · rw [at_ev_ag hx.1 wi]; exact ei
theorem at_ff_ok (h : at_GS X m0 m ν S) {t p i : Nat} {pl idx v : at_A} (ep : at_ev ν pl = p) (ei : at_ev ν idx = i) (e : at_ff S.2.1 t pl idx = some v) : at_ev ν v = (m.1 p i).toInt ∧ at_wf S.1.1.length v := by
  have key : ∀ fs : List at_F, (∀ f ∈ fs, at_FT ν m f ∧ at_FW S.1.1.length f) → at_ff fs t pl idx = some v → at_ev ν v = (m.1 p i).toInt ∧ at_wf S.1.1.length v := by
    intro fs
    induction fs with
    | nil => intro _ e; cases e
    | cons f r ih =>
      intro hf e
      unfold at_ff at e
      cases hb : Nat.beq f.1 t && (at_eq f.2.1 pl && at_eq f.2.2.1 idx) with
      | false => rw [hb] at e; exact ih (fun g hg => hf g (List.mem_cons_of_mem _ hg)) e
      | true =>
        rw [hb] at e
        cases e
        simp only [Bool.and_eq_true] at hb
        obtain ⟨-, b2, b3⟩ := hb
        obtain ⟨⟨p', i', e1, e2, e3, e4⟩, w1, w2, w3⟩ := hf f List.mem_cons_self
        rw [at_eq_ok b2, ep] at e1
        rw [at_eq_ok b3, ei] at e2
        have e1 : p = p' := by omega
        have e2 : i = i' := by omega
        subst e1 e2
        exact ⟨e4.symm, w3⟩
  exact key _ h.2.1 e
theorem at_SpS.self (h : at_GS X m0 m ν S) {v : at_A} {z : Int} (hw : at_wf S.1.1.length v) (e : at_ev ν v = z) : at_SpS X m0 m ν S (S, v) z := ⟨ν, at_ag.rfl, Nat.le_refl _, h, hw, e, rfl⟩
set_option maxRecDepth 100000 in
theorem at_K280 : fk_K 280 = at_TA := by decide +kernel
theorem at_280 (h : Nat) : 280 < fl_N h := by unfold fl_N; omega
set_option maxRecDepth 100000 in
theorem at_TA0 : (List.range 285).all (fun p => !Nat.beq (fk_K0.getD p 0) at_TA || Nat.beq p 280) = true := by decide +kernel
set_option maxRecDepth 100000 in
theorem at_TA1 : (List.range 90).all (fun p => !Nat.beq (fk_K1.getD p 0) at_TA) = true := by decide +kernel
theorem at_isA {p : Nat} (h : fk_K p = at_TA) : p = 280 := by
  by_cases hl : p < 285
  · have H := List.all_eq_true.mp at_TA0 p (List.mem_range.mpr hl)
    rw [fk_K_lo hl] at h
    rw [h] at H
    simpa [at_TA] using H
  · obtain ⟨d, r, hr, rfl⟩ : ∃ d r, r < 90 ∧ p = 285 + 90 * d + r := ⟨(p - 285) / 90, (p - 285) % 90, Nat.mod_lt _ (by decide), by omega⟩
    have H := List.all_eq_true.mp at_TA1 r (List.mem_range.mpr hr)
    rw [fk_K_hi hr] at h
    rw [h] at H
    simp [at_TA] at H
theorem at_cells (h : at_RG m) : 0 ≤ at_w m 2 ∧ at_w m 2 ≤ 16 := by
  have hm : ((0, 2, 0, 1, 1, 0, 16) : at_R) ∈ at_rg (fk_K 280) := by rw [at_K280]; decide +kernel
  exact h 280 (at_280 _) _ hm 2 ⟨0, 0, by decide, by decide, by decide, by decide, by decide⟩
theorem at_cs_ok (h : at_GS X m0 m ν S) : at_SpS X m0 m ν S (at_cs S) (at_w m 2) := by
  unfold at_cs
  split
  · rename_i v e
    obtain ⟨h1, h2⟩ := at_ff_ok h (p := 280) (i := 2) (at_ev_c _ _) (at_ev_c _ _) e
    exact at_SpS.self h h2 h1
  · obtain ⟨c1, c2⟩ := at_cells h.2.2.2.1
    exact at_pf_ok h at_wf_c at_wf_c (p := 280) (i := 2) (at_ev_c _ _) (at_ev_c _ _) at_K280 c1 c2
theorem at_bk_no (h : at_GS X m0 m ν S) {w : Nat} {o : at_A} (e : at_bk S w o = false) : at_nb ν S.2.2.2 w (at_ev ν o) := by
  intro b hb hw
  unfold at_bk at e
  have := List.any_eq_false.mp e b hb
  simp only [Bool.and_eq_true, not_and, Bool.not_eq_true, Bool.not_eq_true', Bool.not_eq_false] at this
  have hz := at_nz_ok h.1.1 (this (by rw [hw]; exact Nat.beq_refl _))
  rw [at_ev_sub] at hz
  omega
end ATL

end

/-! 60.load2.lean.txt -/
section
/-! ===== words that are read: what 59 says holds ===== -/
section ATM
variable {X : fl_M → Prop} {m0 m : fl_M} {ν ν' : Nat → Int} {S : at_S}
/-- the marked regions are where they are -/
def at_tb (w : Nat) : Nat := match w with
  | 1 => 444
  | 2 => 445
  | 3 => 450
  | _ => 454
theorem at_rgA : (at_rg at_TA).all (fun r => Nat.beq r.1 0 || (bif Nat.beq r.1 5 then decide (r.2.1 = 341 ∧ r.2.2.1 = 35 ∧ r.2.2.2.1 = 3 ∧ r.2.2.2.2.1 = 1) else (decide (r.2.1 = at_tb r.1 ∧ r.2.2.1 = 61 ∧ r.2.2.2.1 = 16 ∧ r.2.2.2.2.1 = 1) && decide (r.1 ≤ 4)))) = true := by decide +kernel
theorem at_rg0 : (List.range 84).all (fun t => Nat.beq t at_TA || (at_rg t).all (fun r => Nat.beq r.1 0)) = true := by decide +kernel
theorem at_rgT {t : Nat} {r : at_R} (hr : r ∈ at_rg t) (h : r.1 ≠ 0) : t = at_TA := by
  by_cases ht : t < 84
  · have H := List.all_eq_true.mp at_rg0 t (List.mem_range.mpr ht)
    rcases (Bool.or_eq_true _ _).mp H with H | H
    · exact Nat.eq_of_beq_eq_true H
    · have := List.all_eq_true.mp H r hr
      exact absurd (Nat.eq_of_beq_eq_true this) h
  · have e : at_rg t = [] := by
      exact at_rg_out (by omega)
    rw [e] at hr
    cases hr
theorem at_fd_ok {sy : List (Int × Int)} {idx : at_A} {l : List at_R} {r : at_R} {o : at_A} (h : at_fd sy idx l = some (r, o)) : r ∈ l ∧ at_rin sy idx r.2.1 r.2.2.1 r.2.2.2.1 r.2.2.2.2.1 = some o := by
  induction l with
  | nil => cases h
  | cons q l ih =>
    unfold at_fd at h
    split at h
    · rename_i u e
      cases h
      exact ⟨List.mem_cons_self, e⟩
    · obtain ⟨h1, h2⟩ := ih h
      exact ⟨List.mem_cons_of_mem _ h1, h2⟩
theorem at_rg_at (hR : at_RG m) {p i : Nat} {r : at_R} {o k : Int} (hp : p < fl_N m.2.2) (hr : r ∈ at_rg (fk_K p)) (h1 : 0 ≤ o) (h2 : o ≤ r.2.2.2.1 - 1) (h3 : 0 ≤ k) (h4 : k ≤ r.2.2.2.2.1 - 1) (e : (i : Int) = r.2.1 + r.2.2.1 * o + k) : r.2.2.2.2.2.1 ≤ (m.1 p i).toInt ∧ (m.1 p i).toInt ≤ r.2.2.2.2.2.2 := hR p hp r hr i ⟨o, k, h1, h2, h3, h4, e⟩
theorem at_ldT_ok (h : at_GS X m0 m ν S) {i : Nat} {pl idx o : at_A} {w : Nat} {lo hi : Int} (wp : at_wf S.1.1.length pl) (wi : at_wf S.1.1.length idx) (wo : at_wf S.1.1.length o) (ep : at_ev ν pl = 280) (ei : at_ev ν idx = i) (hw : w = 1 ∨ w = 3 ∨ w = 4) (o0 : 0 ≤ at_ev ν o) (o1 : at_ev ν o ≤ 15) (eo : (i : Int) = at_tb w + 61 * at_ev ν o) (h1 : lo ≤ at_w m i) (h2 : at_w m i ≤ hi) : at_SpS X m0 m ν S (at_ldT S pl idx w lo hi o) (at_w m i) := by
  obtain ⟨ν1, ag1, le1, g1, wf1, e1, same1⟩ := at_cs_ok h
  unfold at_ldT
  generalize at_cs S = s at le1 g1 wf1 e1 same1
  dsimp only
  have eo' : at_ev ν1 o = at_ev ν o := at_ev_ag ag1 wo
  have hlo : (bif at_le s.1.1 (at_add (at_sub o s.2) (at_c 1)) && !at_bk s.1 w o then (bif Nat.beq w 4 then 1 else 100) else lo) ≤ (m.1 280 i).toInt := by
    cases hb : at_le s.1.1 (at_add (at_sub o s.2) (at_c 1)) && !at_bk s.1 w o with
    | false => exact h1
    | true =>
      simp only [Bool.and_eq_true, Bool.not_eq_true'] at hb
      obtain ⟨b1, b2⟩ := hb
      have b1 := at_le_ok g1.1.1 b1
      rw [at_ev_add, at_ev_sub, at_ev_c, eo', e1] at b1
      have b2 := at_bk_no g1 b2
      rw [eo'] at b2
      obtain ⟨c, hc⟩ : ∃ c : Nat, at_ev ν o = c := ⟨(at_ev ν o).toNat, by omega⟩
      rw [hc] at b2 eo b1 o1
      obtain ⟨k1, k2, k3, k4⟩ := g1.2.2.2.2.1.1 c (by omega) (by omega)
      rcases hw with rfl | rfl | rfl
      · have : i = 444 + 61 * c := by have : (i : Int) = 444 + 61 * c := eo; omega
        rw [this]
        exact k1 b2
      · have : i = 450 + 61 * c := by have : (i : Int) = 450 + 61 * c := eo; omega
        rw [this]
        exact k2 b2
      · have : i = 454 + 61 * c := by have : (i : Int) = 454 + 61 * c := eo; omega
        rw [this]
        exact k3 b2
  obtain ⟨ν2, ag2, le2, g2, wf2, e2, same2⟩ := at_pf_ok g1 (p := 280) (i := i) (pl := pl) (idx := idx) (t := at_TA) (wp.mono le1) (wi.mono le1) (by rw [at_ev_ag ag1 wp]; exact ep) (by rw [at_ev_ag ag1 wi]; exact ei) at_K280 hlo h2
  exact ⟨ν2, ag1.trans ag2 le1, Nat.le_trans le1 le2, g2, wf2, e2, same2.trans same1⟩
theorem at_GS.tr {a : at_A} (h : at_GS X m0 m ν S) (ha : at_wf S.1.1.length a) (he : at_ev ν a ≤ 0) : at_GS X m0 m ν (at_try S.1 a, S.2) ∧ (at_try S.1 a).1.length = S.1.1.length := by
  obtain ⟨h1, h2⟩ := at_try_X h.1 ha he
  exact ⟨h.ext h1, h2⟩
theorem at_ldC_ok (h : at_GS X m0 m ν S) {i : Nat} {pl idx o : at_A} {lo hi : Int} (wp : at_wf S.1.1.length pl) (wi : at_wf S.1.1.length idx) (wo : at_wf S.1.1.length o) (ep : at_ev ν pl = 280) (ei : at_ev ν idx = i) (o0 : 0 ≤ at_ev ν o) (o1 : at_ev ν o ≤ 15) (eo : (i : Int) = 445 + 61 * at_ev ν o) (h1 : lo ≤ at_w m i) (h2 : at_w m i ≤ hi) : at_SpS X m0 m ν S (at_ldC S pl idx lo hi o) (at_w m i) := by
  obtain ⟨ν1, ag1, le1, g1, wf1, e1, same1⟩ := at_cs_ok h
  unfold at_ldC
  generalize at_cs S = s at le1 g1 wf1 e1 same1
  dsimp only
  have eo' : at_ev ν1 o = at_ev ν o := at_ev_ag ag1 wo
  have ep1 : at_ev ν1 pl = 280 := by rw [at_ev_ag ag1 wp]; exact ep
  have ei1 : at_ev ν1 idx = i := by rw [at_ev_ag ag1 wi]; exact ei
  cases hb : at_le s.1.1 (at_add (at_sub o s.2) (at_c 1)) && (!at_bk s.1 2 o && !at_bk s.1 1 o) with
  | false =>
    obtain ⟨ν2, ag2, le2, g2, wf2, e2, same2⟩ := at_pf_ok g1 (p := 280) (i := i) (pl := pl) (idx := idx) (t := at_TA) (lo := lo) (hi := hi) (wp.mono le1) (wi.mono le1) ep1 ei1 at_K280 h1 h2
    exact ⟨ν2, ag1.trans ag2 le1, Nat.le_trans le1 le2, g2, wf2, e2, same2.trans same1⟩
  | true =>
    simp only [Bool.and_eq_true, Bool.not_eq_true'] at hb
    obtain ⟨b1, b2, b2'⟩ := hb
    have b1 := at_le_ok g1.1.1 b1
    rw [at_ev_add, at_ev_sub, at_ev_c, eo', e1] at b1
    have b2 := at_bk_no g1 b2
    rw [eo'] at b2
    obtain ⟨c, hc⟩ : ∃ c : Nat, at_ev ν o = c := ⟨(at_ev ν o).toNat, by omega⟩
    rw [hc] at b2 eo b1 o1
    have hi0 : i = 445 + 61 * c := by omega
    obtain ⟨k1, k2, k3, k4⟩ := g1.2.2.2.2.1.1 c (by omega) (by omega)
    obtain ⟨k5, k6⟩ := k4 b2
    have hcap : 0 ≤ at_w m (444 + 61 * c) ∧ at_w m (444 + 61 * c) ≤ 9999 := by
      have hm : ((1, 444, 61, 16, 1, 0, 9999) : at_R) ∈ at_rg (fk_K 280) := by rw [at_K280]; decide +kernel
      refine at_rg_at g1.2.2.2.1 (at_280 _) hm (o := c) (k := 0) (by omega) (by show (c : Int) ≤ 16 - 1; omega) (by decide) (by decide) ?_
      show ((444 + 61 * c : Nat) : Int) = 444 + 61 * (c : Int) + 0
      omega
    have eic : at_ev ν1 (at_sub idx (at_c 1)) = ((444 + 61 * c : Nat) : Int) := by rw [at_ev_sub, at_ev_c, ei1]; omega
    have wic : at_wf s.1.1.1.length (at_sub idx (at_c 1)) := at_wf_sub (wi.mono le1) at_wf_c
    have key : at_SpS X m0 m ν1 s.1 (at_ldK s.1 pl idx o) (at_w m (444 + 61 * c)) := by
      unfold at_ldK
      split
      · rename_i v e
        obtain ⟨q1, q2⟩ := at_ff_ok g1 (p := 280) (i := 444 + 61 * c) ep1 eic e
        exact at_SpS.self g1 q2 q1
      · refine at_ldT_ok g1 (wp.mono le1) wic (wo.mono le1) ep1 eic (Or.inl rfl) (by omega) (by omega) ?_ hcap.1 hcap.2
        show ((444 + 61 * c : Nat) : Int) = 444 + 61 * _
        omega
    dsimp only [cond_true]
    generalize at_ldK s.1 pl idx o = cq at key
    obtain ⟨ν2, ag2, le2, g2, wf2, e2, same2⟩ := key
    subst hi0
    obtain ⟨ν3, ag3, le3, g3, wf3, e3, same3⟩ := at_pf_ok g2 (p := 280) (i := 445 + 61 * c) (pl := pl) (idx := idx) (t := at_TA) (lo := 0) (hi := 35996400) ((wp.mono le1).mono le2) ((wi.mono le1).mono le2) (by rw [at_ev_ag ag2 (wp.mono le1)]; exact ep1) (by rw [at_ev_ag ag2 (wi.mono le1)]; exact ei1) at_K280 k5 (by have : (m.1 280 (445 + 61 * c)).toInt ≤ 3600 * at_w m (444 + 61 * c) := k6; omega)
    generalize at_pf cq.1 (at_fr cq.1.1 0 35996400) at_TA pl idx = vq at le3 g3 wf3 e3 same3
    obtain ⟨g4, l4⟩ := g3.tr (a := at_sub vq.2 (at_mul 3600 cq.2)) (at_wf_sub wf3 (at_wf_mul (wf2.mono le3))) (by
      rw [at_ev_sub, at_ev_mul, e3, at_ev_ag ag3 wf2, e2]
      have : (m.1 280 (445 + 61 * c)).toInt ≤ 3600 * at_w m (444 + 61 * c) := k6
      omega)
    refine ⟨ν3, (ag1.trans ag2 le1).trans ag3 (Nat.le_trans le1 le2), ?_, g4, ?_, e3, ?_⟩
    · dsimp only; omega
    · dsimp only; rw [l4]; exact wf3
    · exact (same3.trans same2).trans same1
theorem at_ldM_ok (h : at_GS X m0 m ν S) {i : Nat} {pl idx : at_A} {lo hi : Int} (wp : at_wf S.1.1.length pl) (wi : at_wf S.1.1.length idx) (ep : at_ev ν pl = 280) (ei : at_ev ν idx = i) (hk : at_w m i ≤ at_w m 2) (h1 : lo ≤ at_w m i) (h2 : at_w m i ≤ hi) : at_SpS X m0 m ν S (at_ldM S pl idx lo hi) (at_w m i) := by
  obtain ⟨ν1, ag1, le1, g1, wf1, e1, same1⟩ := at_cs_ok h
  unfold at_ldM
  generalize at_cs S = s at le1 g1 wf1 e1 same1
  dsimp only
  obtain ⟨ν3, ag3, le3, g3, wf3, e3, same3⟩ := at_pf_ok g1 (p := 280) (i := i) (pl := pl) (idx := idx) (t := at_TA) (lo := lo) (hi := hi) (wp.mono le1) (wi.mono le1) (by rw [at_ev_ag ag1 wp]; exact ep) (by rw [at_ev_ag ag1 wi]; exact ei) at_K280 h1 h2
  generalize at_pf s.1 (at_fr s.1.1 lo hi) at_TA pl idx = vq at le3 g3 wf3 e3 same3
  obtain ⟨g4, l4⟩ := g3.tr (a := at_sub vq.2 s.2) (at_wf_sub wf3 (wf1.mono le3)) (by
    rw [at_ev_sub, e3, at_ev_ag ag3 wf1, e1]
    have : (m.1 280 i).toInt ≤ at_w m 2 := hk
    omega)
  refine ⟨ν3, ag1.trans ag3 le1, ?_, g4, ?_, e3, same3.trans same1⟩
  · dsimp only; omega
  · dsimp only; rw [l4]; exact wf3
theorem at_i32 (x : Int32) : (-2147483648 : Int) ≤ x.toInt ∧ x.toInt ≤ 2147483647 := by
  have h1 := Int32.le_toInt x
  have h2 := Int32.toInt_lt x
  omega
/-- A WORD IS READ -/
theorem at_ld_ok (h : at_GS X m0 m ν S) {t p i : Nat} {pl idx : at_A} (wp : at_wf S.1.1.length pl) (wi : at_wf S.1.1.length idx) (ep : at_ev ν pl = p) (ei : at_ev ν idx = i) (hk : fk_K p = t) (hp : p < fl_N m.2.2) : at_SpS X m0 m ν S (at_ld S t pl idx) (m.1 p i).toInt := by
  unfold at_ld
  split
  · rename_i v e
    obtain ⟨h1, h2⟩ := at_ff_ok h ep ei e
    exact at_SpS.self h h2 h1
  · split
    · obtain ⟨h1, h2⟩ := at_i32 (m.1 p i)
      exact at_pf_ok h wp wi ep ei hk h1 h2
    · rename_i r o e
      obtain ⟨hr, hin⟩ := at_fd_ok e
      obtain ⟨k, o0, o1, k0, k1, ek⟩ := at_rin_ok h.1.1.1 hin
      have wo := at_rin_wf wi hin
      have hrange := at_rg_at h.2.2.2.1 hp (hk ▸ hr) o0 o1 k0 k1 (by rw [← ei]; exact ek)
      obtain ⟨r1, r2⟩ := hrange
      by_cases hw : r.1 = 0
      · rw [hw]
        exact at_pf_ok h wp wi ep ei hk r1 r2
      · have hT := at_rgT hr hw
        subst hT
        have hp280 := at_isA hk
        subst hp280
        have H := List.all_eq_true.mp at_rgA r hr
        rcases (Bool.or_eq_true _ _).mp H with H | H
        · exact absurd (Nat.eq_of_beq_eq_true H) hw
        · cases h5 : Nat.beq r.1 5 with
          | true =>
            rw [h5] at H
            have H := of_decide_eq_true H
            have e5 := Nat.eq_of_beq_eq_true h5
            rw [e5]
            rw [H.1, H.2.1, ei] at ek
            rw [H.2.2.1] at o1
            rw [H.2.2.2] at k1
            refine at_ldM_ok h wp wi ep ei ?_ r1 r2
            obtain ⟨c, hc⟩ : ∃ c : Nat, at_ev ν o = c := ⟨(at_ev ν o).toNat, by omega⟩
            have := h.2.2.2.2.1.2 c (by omega)
            have e2 : i = 341 + 35 * c := by omega
            rw [e2]
            exact this
          | false =>
            rw [h5] at H
            simp only [cond_false, Bool.and_eq_true, decide_eq_true_eq] at H
            obtain ⟨⟨H1, H2, H3, H4⟩, H5⟩ := H
            rw [H1, H2, ei] at ek
            rw [H3] at o1
            rw [H4] at k1
            have hk0 : k = 0 := by omega
            subst hk0
            have hcase : r.1 = 1 ∨ r.1 = 2 ∨ r.1 = 3 ∨ r.1 = 4 := by omega
            rcases hcase with hw | hw | hw | hw
            · rw [hw] at ek ⊢
              exact at_ldT_ok h wp wi wo ep ei (Or.inl rfl) o0 (by omega) (by omega) r1 r2
            · rw [hw] at ek ⊢
              exact at_ldC_ok h wp wi wo ep ei o0 (by omega) (by have : (i : Int) = 445 + 61 * at_ev ν o + 0 := ek; omega) r1 r2
            · rw [hw] at ek ⊢
              exact at_ldT_ok h wp wi wo ep ei (Or.inr (Or.inl rfl)) o0 (by omega) (by omega) r1 r2
            · rw [hw] at ek ⊢
              exact at_ldT_ok h wp wi wo ep ei (Or.inr (Or.inr rfl)) o0 (by omega) (by omega) r1 r2
end ATM

end

/-! 61.store.lean.txt -/
section
/-! ===== the looker's memory: words that are written ===== -/
/-- words that the looker never writes: the steps of the reference, its image, what it puts aside, the rows of the histories -/
def at_prot (t : Nat) (j : Int) : Prop := (t = at_TA ∧ 1420 ≤ j) ∨ t = 80 ∨ t = 82 ∨ t = 74 ∨ t = 77 ∨ t = 78
def at_np (sy : List (Int × Int)) (t : Nat) (idx : at_A) : Bool := bif Nat.beq t at_TA then decide (at_hi sy idx ≤ 1419) else !(Nat.beq t 80 || (Nat.beq t 82 || (Nat.beq t 74 || (Nat.beq t 77 || Nat.beq t 78))))
/-- the place of a write, for the list of places -/
def at_en (sy : List (Int × Int)) (t : Nat) (idx : at_A) : at_W := match (bif Nat.beq t at_TA then at_rin sy idx 444 61 16 61 else none) with
  | some o => (fun d : at_A => (t, true, at_lo sy d, at_hi sy d)) (at_sub idx (at_add (at_c 444) (at_mul 61 o)))
  | none => (t, false, at_lo sy idx, at_hi sy idx)
def at_eqW (a b : at_W) : Bool := Nat.beq a.1 b.1 && ((bif a.2.1 then b.2.1 else !b.2.1) && (decide (a.2.2.1 = b.2.2.1) && decide (a.2.2.2 = b.2.2.2)))
def at_hb (brk : List (Nat × at_A)) (w : Nat) (o : at_A) : Bool := brk.any (fun b => Nat.beq b.1 w && at_eq b.2 o)
def at_reg (w : Nat) : at_R := (w, (at_tb w : Int), 61, 16, 1, 0, 0)
def at_good (S : at_S) (pl idx v : at_A) (w : Nat) : Bool := match w with
  | 2 => (match at_ff S.2.1 at_TA pl (at_sub idx (at_c 1)) with
    | some c => at_nn S.1 v && at_le S.1 (at_sub v (at_mul 3600 c))
    | none => false)
  | 4 => decide (1 ≤ at_lo S.1.1 v)
  | _ => decide (100 ≤ at_lo S.1.1 v)
/-- a write in a marked region: what is broken then -/
def at_sv1 (S : at_S) (pl idx v : at_A) (w : Nat) (brk : List (Nat × at_A)) : Option (List (Nat × at_A)) :=
  bif at_dj S.1.1 idx (at_reg w) then some brk
  else match at_rin S.1.1 idx (at_tb w) 61 16 1 with
    | some o => bif at_good S pl idx v w then some (brk.filter (fun b => !(Nat.beq b.1 w && at_eq b.2 o))) else bif at_hb brk w o then some brk else some ((w, o) :: brk)
    | none => match at_rin S.1.1 idx 444 61 16 61 with
      | some o => bif at_hb brk w o && at_hb brk 2 o then some brk else none
      | none => none
/-- a capacity is written: its charge may be too much for it -/
def at_svc (S : at_S) (pl idx v : at_A) (brk : List (Nat × at_A)) : List (Nat × at_A) :=
  bif at_dj S.1.1 idx (at_reg 1) then brk
  else match at_rin S.1.1 idx 444 61 16 1 with
    | none => brk
    | some o => bif at_hb brk 2 o then brk else match at_ff S.2.1 at_TA pl (at_add idx (at_c 1)) with
      | none => (2, o) :: brk
      | some c => bif at_le S.1 (at_sub c (at_mul 3600 v)) then brk else (2, o) :: brk
def at_svA (S : at_S) (n pl idx v : at_A) : Option (List (Nat × at_A)) :=
  bif at_eq idx (at_c 2) then (bif at_eq v (at_add n (at_c 1)) then some ((1, n) :: (2, n) :: (3, n) :: (4, n) :: S.2.2.2) else none)
  else bif at_nz S.1 (at_sub idx (at_c 2)) && (at_dj S.1.1 idx (5, 341, 35, 3, 1, 0, 16) || at_le S.1 (at_sub v n)) then
    (match at_sv1 S pl idx v 2 (at_svc S pl idx v S.2.2.2) with
    | none => none
    | some b2 => match at_sv1 S pl idx v 1 b2 with
      | none => none
      | some b1 => match at_sv1 S pl idx v 3 b1 with
        | none => none
        | some b3 => at_sv1 S pl idx v 4 b3)
  else none
def at_keep (P : at_P) (t : Nat) (pl idx : at_A) (f : at_F) : Bool := !Nat.beq f.1 t || (at_nz P (at_sub f.2.1 pl) || at_nz P (at_sub f.2.2.1 idx))
def at_fin (S : at_S) (t : Nat) (pl idx v : at_A) (brk : List (Nat × at_A)) : at_S := (S.1, (t, pl, idx, v) :: S.2.1.filter (at_keep S.1 t pl idx), (fun e : at_W => bif S.2.2.1.any (at_eqW e) then S.2.2.1 else e :: S.2.2.1) (at_en S.1.1 t idx), brk)
def at_sv (S : at_S) (t : Nat) (pl idx v : at_A) : Option at_S :=
  bif (at_rg t).all (fun r => at_dj S.1.1 idx r || at_inR S.1 v r.2.2.2.2.2.1 r.2.2.2.2.2.2) && at_np S.1.1 t idx then
    (bif Nat.beq t at_TA then (fun s : at_S × at_A => match at_svA s.1 s.2 pl idx v with
      | some brk => some (at_fin s.1 t pl idx v brk)
      | none => none) (at_cs S)
    else some (at_fin S t pl idx v S.2.2.2))
  else none
theorem at_np_ok {ν : Nat → Int} {sy : List (Int × Int)} (hR : at_Rg ν sy) {t : Nat} {idx : at_A} (h : at_np sy t idx = true) : ¬ at_prot t (at_ev ν idx) := by
  unfold at_np at h
  cases ht : Nat.beq t at_TA with
  | true =>
    rw [ht] at h
    have h := of_decide_eq_true h
    have := at_hi_le hR idx
    have ht := Nat.eq_of_beq_eq_true ht
    subst ht
    rintro (⟨-, h2⟩ | h2 | h2 | h2 | h2 | h2)
    · omega
    · cases h2
    · cases h2
    · cases h2
    · cases h2
    · cases h2
  | false =>
    rw [ht] at h
    simp only [cond_false, Bool.not_eq_true', Bool.or_eq_false_iff] at h
    obtain ⟨h1, h2, h3, h4, h5⟩ := h
    rintro (⟨e, -⟩ | e | e | e | e | e)
    · rw [e, Nat.beq_refl] at ht; cases ht
    · rw [e] at h1; cases h1
    · rw [e] at h2; cases h2
    · rw [e] at h3; cases h3
    · rw [e] at h4; cases h4
    · rw [e] at h5; cases h5
theorem at_en_ok {ν : Nat → Int} {sy : List (Int × Int)} (hR : at_Rg ν sy) {t : Nat} {idx : at_A} : at_cv (at_en sy t idx) t (at_ev ν idx) := by
  unfold at_en
  split
  · rename_i o e
    cases hb : Nat.beq t at_TA with
    | false => rw [hb] at e; cases e
    | true =>
      replace e : at_rin sy idx 444 61 16 61 = some o := by rw [hb] at e; exact e
      obtain ⟨i, o0, o1, i0, i1, ei⟩ := at_rin_ok hR e
      have l := at_lo_le hR (at_sub idx (at_add (at_c 444) (at_mul 61 o)))
      have u := at_hi_le hR (at_sub idx (at_add (at_c 444) (at_mul 61 o)))
      rw [at_ev_sub, at_ev_add, at_ev_c, at_ev_mul] at l u
      refine ⟨rfl, ?_⟩
      show ∃ o : Int, _
      exact ⟨at_ev ν o, o0, by omega, by dsimp only; omega, by dsimp only; omega⟩
  · refine ⟨rfl, ?_⟩
    show _ ≤ _ ∧ _ ≤ _
    exact ⟨at_lo_le hR idx, at_hi_le hR idx⟩
theorem at_eqW_ok {a b : at_W} (h : at_eqW a b = true) : a = b := by
  obtain ⟨a1, a2, a3, a4⟩ := a
  obtain ⟨b1, b2, b3, b4⟩ := b
  unfold at_eqW at h
  simp only [Bool.and_eq_true, decide_eq_true_eq] at h
  obtain ⟨h1, h2, h3, h4⟩ := h
  have h1 := Nat.eq_of_beq_eq_true h1
  subst h1 h3 h4
  cases a2 <;> cases b2 <;> first | rfl | cases h2
theorem at_hb_ok {brk : List (Nat × at_A)} {w : Nat} {o : at_A} (h : at_hb brk w o = true) : (w, o) ∈ brk := by
  unfold at_hb at h
  obtain ⟨b, hb, e⟩ := List.any_eq_true.mp h
  simp only [Bool.and_eq_true] at e
  have e1 := Nat.eq_of_beq_eq_true e.1
  have e2 := at_eq_ok e.2
  obtain ⟨b1, b2⟩ := b
  dsimp only at e1 e2
  subst e1 e2
  exact hb
section ATS
variable {X : fl_M → Prop} {m0 m : fl_M} {ν ν' : Nat → Int} {S : at_S}
theorem at_up_ne {f : Nat → Nat → Int32} {p i q j : Nat} {x : Int32} (h : ¬ (q = p ∧ j = i)) : fl_up f p i x q j = f q j := if_neg h
theorem at_up_eq {f : Nat → Nat → Int32} {p i : Nat} {x : Int32} : fl_up f p i x p i = x := if_pos ⟨rfl, rfl⟩
/-- the facts behind a write -/
theorem at_keep_ok (h : at_GS X m0 m ν S) {t p i : Nat} {pl idx v : at_A} {x : Int32} (wp : at_wf S.1.1.length pl) (wi : at_wf S.1.1.length idx) (wv : at_wf S.1.1.length v) (ep : at_ev ν pl = p) (ei : at_ev ν idx = i) (ex : x.toInt = at_ev ν v) (hk : fk_K p = t) : ∀ f ∈ (t, pl, idx, v) :: S.2.1.filter (at_keep S.1 t pl idx), at_FT ν (fl_up m.1 p i x, m.2) f ∧ at_FW S.1.1.length f := by
  intro f hf
  rcases List.mem_cons.mp hf with rfl | hf
  · exact ⟨⟨p, i, ep, ei, hk, by dsimp only; rw [at_up_eq]; exact ex⟩, wp, wi, wv⟩
  · obtain ⟨hf, hkp⟩ := List.mem_filter.mp hf
    obtain ⟨⟨q, j, e1, e2, e3, e4⟩, hw⟩ := h.2.1 f hf
    refine ⟨⟨q, j, e1, e2, e3, ?_⟩, hw⟩
    dsimp only
    rw [at_up_ne]
    · exact e4
    · rintro ⟨rfl, rfl⟩
      unfold at_keep at hkp
      simp only [Bool.or_eq_true, Bool.not_eq_true'] at hkp
      rcases hkp with hkp | hkp | hkp
      · rw [← e3, ← hk, Nat.beq_refl] at hkp; cases hkp
      · have := at_nz_ok h.1.1 hkp
        rw [at_ev_sub, e1, ep] at this
        omega
      · have := at_nz_ok h.1.1 hkp
        rw [at_ev_sub, e2, ei] at this
        omega
theorem at_RG.up (h : at_RG m) {ν : Nat → Int} {P : at_P} (hP : at_GP ν P) {t p i : Nat} {idx v : at_A} {x : Int32} (ei : at_ev ν idx = i) (ex : x.toInt = at_ev ν v) (hk : fk_K p = t) (hb : (at_rg t).all (fun r => at_dj P.1 idx r || at_inR P v r.2.2.2.2.2.1 r.2.2.2.2.2.2) = true) : at_RG (fl_up m.1 p i x, m.2) := by
  intro q hq r hr j hj
  dsimp only at hq ⊢
  by_cases hc : q = p ∧ j = i
  · obtain ⟨rfl, rfl⟩ := hc
    rw [at_up_eq, ex]
    have := List.all_eq_true.mp hb r (hk ▸ hr)
    rcases (Bool.or_eq_true _ _).mp this with h1 | h1
    · have := at_dj_ok hP.1 h1
      rw [ei] at this
      exact absurd hj this
    · exact at_inR_ok hP h1
  · rw [at_up_ne hc]
    exact h q hq r hr j hj
theorem at_MD.up {wr : List at_W} (h : at_MD m0 m wr) {p i : Nat} {x : Int32} {e : at_W} {wr' : List at_W} (he : at_cv e (fk_K p) i) (h1 : ∀ w ∈ wr, w ∈ wr') (h2 : e ∈ wr') : at_MD m0 (fl_up m.1 p i x, m.2) wr' := by
  refine ⟨h.1, fun q j hne => ?_⟩
  dsimp only at hne
  by_cases hc : q = p ∧ j = i
  · obtain ⟨rfl, rfl⟩ := hc
    exact ⟨e, h2, he⟩
  · rw [at_up_ne hc] at hne
    obtain ⟨w, hw, hcv⟩ := h.2 q j hne
    exact ⟨w, h1 w hw, hcv⟩
end ATS

end

/-! 62.store2.lean.txt -/
section
/-! ===== words that are written: what 61 says holds ===== -/
section ATU
variable {X : fl_M → Prop} {m0 m : fl_M} {ν ν' : Nat → Int} {S : at_S}
theorem at_tb_le (w : Nat) : 444 ≤ at_tb w ∧ at_tb w ≤ 454 := by
  unfold at_tb
  split <;> omega
theorem at_sv1_ok (hP : at_GP ν S.1) {pl idx v : at_A} {i w : Nat} (ei : at_ev ν idx = i) (wi : at_wf S.1.1.length idx) {brk brk' : List (Nat × at_A)} (hb : ∀ b ∈ brk, at_wf S.1.1.length b.2) (h : at_sv1 S pl idx v w brk = some brk') : (∀ b ∈ brk', at_wf S.1.1.length b.2) ∧ (∀ b ∈ brk, b.1 ≠ w → b ∈ brk') ∧ ∀ c : Nat, c < 16 → (at_nb ν brk' w c → ((i : Int) ≠ at_tb w + 61 * c ∧ at_nb ν brk w c) ∨ ((i : Int) = at_tb w + 61 * c ∧ at_good S pl idx v w = true)) ∧ ((i : Int) = at_tb w + 61 * c → (∃ o, at_rin S.1.1 idx (at_tb w) 61 16 1 = some o ∧ at_ev ν o = c) ∨ ∃ o, (2, o) ∈ brk ∧ at_ev ν o = c) := by
  unfold at_sv1 at h
  have htb := at_tb_le w
  cases hd : at_dj S.1.1 idx (at_reg w) with
  | true =>
    rw [hd] at h
    cases h
    have hn := at_dj_ok hP.1 hd
    rw [ei] at hn
    have hne : ∀ c : Nat, c < 16 → (i : Int) ≠ at_tb w + 61 * c := fun c hc e => hn ⟨c, 0, by omega, by show (c : Int) ≤ 16 - 1; omega, by decide, by show (0 : Int) ≤ 1 - 1; decide, by show (i : Int) = at_tb w + 61 * c + 0; omega⟩
    exact ⟨hb, fun b hb _ => hb, fun c hc => ⟨fun hnb => Or.inl ⟨hne c hc, hnb⟩, fun e => absurd e (hne c hc)⟩⟩
  | false =>
    rw [hd] at h
    dsimp only [cond_false] at h
    rcases e1 : at_rin S.1.1 idx (at_tb w) 61 16 1 with _ | o
    · rw [e1] at h
      dsimp only at h
      rcases e2 : at_rin S.1.1 idx 444 61 16 61 with _ | o
      · rw [e2] at h; cases h
      · rw [e2] at h
        dsimp only at h
        obtain ⟨hh, h⟩ := am_bif h
        cases h
        simp only [Bool.and_eq_true] at hh
        have m1 := at_hb_ok hh.1
        have m2 := at_hb_ok hh.2
        obtain ⟨k, o0, o1, k0, k1, ek⟩ := at_rin_ok hP.1 e2
        rw [ei] at ek
        refine ⟨hb, fun b hb _ => hb, fun c hc => ⟨fun hnb => ?_, fun e => Or.inr ⟨o, m2, by omega⟩⟩⟩
        by_cases e : (i : Int) = at_tb w + 61 * c
        · exact absurd (by omega : at_ev ν o = c) (hnb _ m1 rfl)
        · exact Or.inl ⟨e, hnb⟩
    · rw [e1] at h
      dsimp only at h
      obtain ⟨k, o0, o1, k0, k1, ek⟩ := at_rin_ok hP.1 e1
      rw [ei] at ek
      have wo := at_rin_wf wi e1
      have hit : ∀ c : Nat, (i : Int) = at_tb w + 61 * c ↔ at_ev ν o = c := fun c => by omega
      have p2 : ∀ c : Nat, (i : Int) = at_tb w + 61 * c → (∃ o', some o = some o' ∧ at_ev ν o' = c) ∨ ∃ o, (2, o) ∈ brk ∧ at_ev ν o = c := fun c e => Or.inl ⟨o, rfl, (hit c).mp e⟩
      cases hg : at_good S pl idx v w with
      | true =>
        rw [hg] at h
        cases h
        refine ⟨fun b hb' => hb b (List.mem_filter.mp hb').1, fun b hb' hw => List.mem_filter.mpr ⟨hb', ?_⟩, fun c hc => ⟨fun hnb => ?_, p2 c⟩⟩
        · have : Nat.beq b.1 w = false := by
            cases hx : Nat.beq b.1 w with
            | false => rfl
            | true => exact absurd (Nat.eq_of_beq_eq_true hx) hw
          rw [this]
          rfl
        · by_cases e : (i : Int) = at_tb w + 61 * c
          · exact Or.inr ⟨e, rfl⟩
          · refine Or.inl ⟨e, fun b hb' hw hev => ?_⟩
            refine hnb b (List.mem_filter.mpr ⟨hb', ?_⟩) hw hev
            cases hx : at_eq b.2 o with
            | false => simp
            | true =>
              have := at_eq_ok hx
              rw [this] at hev
              exact absurd ((hit c).mpr hev) e
      | false =>
        rw [hg] at h
        dsimp only [cond_false] at h
        have sub : brk' = brk ∨ brk' = (w, o) :: brk := by
          cases hh : at_hb brk w o with
          | true => rw [hh] at h; cases h; exact Or.inl rfl
          | false => rw [hh] at h; cases h; exact Or.inr rfl
        have hin : (w, o) ∈ brk' := by
          cases hh : at_hb brk w o with
          | true => rw [hh] at h; cases h; exact at_hb_ok hh
          | false => rw [hh] at h; cases h; exact List.mem_cons_self
        have hsub : ∀ b ∈ brk, b ∈ brk' := by
          rcases sub with e | e
          · rw [e]; exact fun b hb => hb
          · rw [e]; exact fun b hb => List.mem_cons_of_mem _ hb
        refine ⟨?_, fun b hb' _ => hsub b hb', fun c hc => ⟨fun hnb => ?_, p2 c⟩⟩
        · rcases sub with e | e
          · rw [e]; exact hb
          · rw [e]
            intro b hb'
            rcases List.mem_cons.mp hb' with rfl | hb'
            · exact wo
            · exact hb b hb'
        · by_cases e : (i : Int) = at_tb w + 61 * c
          · exact absurd ((hit c).mp e) (hnb _ hin rfl)
          · exact Or.inl ⟨e, fun b hb' hw => hnb b (hsub b hb') hw⟩
theorem at_svc_ok (h : at_GS X m0 m ν S) {pl idx v : at_A} {i : Nat} {x : Int32} (ep : at_ev ν pl = 280) (ei : at_ev ν idx = i) (wi : at_wf S.1.1.length idx) (ex : x.toInt = at_ev ν v) : (∀ b ∈ at_svc S pl idx v S.2.2.2, at_wf S.1.1.length b.2) ∧ (∀ b ∈ S.2.2.2, b ∈ at_svc S pl idx v S.2.2.2) ∧ (∀ b ∈ at_svc S pl idx v S.2.2.2, b.1 ≠ 2 → b ∈ S.2.2.2) ∧ ∀ (c : Nat) (o : at_A), at_rin S.1.1 idx 444 61 16 1 = some o → at_ev ν o = c → (i : Int) = 444 + 61 * c → at_nb ν (at_svc S pl idx v S.2.2.2) 2 c → at_w m (445 + 61 * c) ≤ 3600 * x.toInt := by
  unfold at_svc
  cases hd : at_dj S.1.1 idx (at_reg 1) with
  | true =>
    refine ⟨h.2.2.1, fun b hb => hb, fun b hb _ => hb, fun c o e1 e2 e3 _ => ?_⟩
    have hn := at_dj_ok h.1.1.1 hd
    rw [ei] at hn
    obtain ⟨k, o0, o1, k0, k1, ek⟩ := at_rin_ok h.1.1.1 e1
    exact absurd ⟨c, 0, by omega, by show (c : Int) ≤ 16 - 1; omega, by decide, by show (0 : Int) ≤ 1 - 1; decide, by show (i : Int) = 444 + 61 * c + 0; omega⟩ hn
  | false =>
    dsimp only [cond_false]
    rcases e1 : at_rin S.1.1 idx 444 61 16 1 with _ | o
    · exact ⟨h.2.2.1, fun b hb => hb, fun b hb _ => hb, fun c o e => by cases e⟩
    · dsimp only
      have wo := at_rin_wf wi e1
      have hcons : ∀ P : Prop, (at_nb ν ((2, o) :: S.2.2.2) 2 (at_ev ν o) → P) := fun P hnb => absurd rfl (hnb (2, o) List.mem_cons_self rfl)
      have wcons : ∀ b ∈ (2, o) :: S.2.2.2, at_wf S.1.1.length b.2 := by
        intro b hb
        rcases List.mem_cons.mp hb with rfl | hb
        · exact wo
        · exact h.2.2.1 b hb
      have scons : ∀ b ∈ (2, o) :: S.2.2.2, b.1 ≠ 2 → b ∈ S.2.2.2 := by
        intro b hb h2
        rcases List.mem_cons.mp hb with rfl | hb
        · exact absurd rfl h2
        · exact hb
      cases hh : at_hb S.2.2.2 2 o with
      | true =>
        refine ⟨h.2.2.1, fun b hb => hb, fun b hb _ => hb, fun c o' e e2 e3 hnb => ?_⟩
        cases e
        exact absurd e2 (hnb _ (at_hb_ok hh) rfl)
      | false =>
        dsimp only [cond_false]
        rcases e4 : at_ff S.2.1 at_TA pl (at_add idx (at_c 1)) with _ | cc
        · refine ⟨wcons, fun b hb => List.mem_cons_of_mem _ hb, scons, fun c o' e e2 e3 hnb => ?_⟩
          cases e
          rw [← e2] at hnb
          exact hcons _ hnb
        · dsimp only
          cases e5 : at_le S.1 (at_sub cc (at_mul 3600 v)) with
          | false =>
            refine ⟨wcons, fun b hb => List.mem_cons_of_mem _ hb, scons, fun c o' e e2 e3 hnb => ?_⟩
            cases e
            rw [← e2] at hnb
            exact hcons _ hnb
          | true =>
            refine ⟨h.2.2.1, fun b hb => hb, fun b hb _ => hb, fun c o' e e2 e3 hnb => ?_⟩
            have k := at_le_ok h.1.1 e5
            obtain ⟨f1, -⟩ := at_ff_ok h (p := 280) (i := 445 + 61 * c) ep (by rw [at_ev_add, at_ev_c, ei]; omega) e4
            rw [at_ev_sub, at_ev_mul, f1, ← ex] at k
            show (m.1 280 (445 + 61 * c)).toInt ≤ _
            omega
theorem at_w_up {i j : Nat} {x : Int32} : at_w (fl_up m.1 280 i x, m.2) j = if j = i then x.toInt else at_w m j := by
  unfold at_w
  dsimp only
  by_cases h : j = i
  · rw [if_pos h, h, at_up_eq]
  · rw [if_neg h, at_up_ne (fun e => h e.2)]
theorem at_svA_ok (h : at_GS X m0 m ν S) {n pl idx v : at_A} {i : Nat} {x : Int32} (wn : at_wf S.1.1.length n) (en : at_ev ν n = at_w m 2) (ep : at_ev ν pl = 280) (ei : at_ev ν idx = i) (wi : at_wf S.1.1.length idx) (ex : x.toInt = at_ev ν v) {brk' : List (Nat × at_A)} (hs : at_svA S n pl idx v = some brk') : at_RL ν brk' (fl_up m.1 280 i x, m.2) ∧ ∀ b ∈ brk', at_wf S.1.1.length b.2 := by
  unfold at_svA at hs
  obtain ⟨r1, r2⟩ := h.2.2.2.2.1
  cases hc : at_eq idx (at_c 2) with
  | true =>
    rw [hc] at hs
    dsimp only [cond_true] at hs
    obtain ⟨hv, hs⟩ := am_bif hs
    cases hs
    have hi : i = 2 := by
      have := at_eq_ok hc
      rw [this, at_ev_c] at ei
      omega
    subst hi
    have hv : x.toInt = at_w m 2 + 1 := by
      rw [ex, at_eq_ok hv, at_ev_add, at_ev_c, en]
    have e2 : at_w (fl_up m.1 280 2 x, m.2) 2 = at_w m 2 + 1 := by rw [at_w_up, if_pos rfl, hv]
    have eo : ∀ j, j ≠ 2 → at_w (fl_up m.1 280 2 x, m.2) j = at_w m j := fun j hj => by rw [at_w_up, if_neg hj]
    refine ⟨⟨fun c hc16 hlt => ?_, fun k hk => ?_⟩, ?_⟩
    · rw [e2] at hlt
      rw [eo _ (by omega), eo _ (by omega), eo _ (by omega), eo _ (by omega)]
      by_cases hl : (c : Int) < at_w m 2
      · obtain ⟨k1, k2, k3, k4⟩ := r1 c hc16 hl
        have hsub : ∀ w, at_nb ν ((1, n) :: (2, n) :: (3, n) :: (4, n) :: S.2.2.2) w c → at_nb ν S.2.2.2 w c := fun w hnb b hb => hnb b (by simp [hb])
        exact ⟨fun a => k1 (hsub _ a), fun a => k2 (hsub _ a), fun a => k3 (hsub _ a), fun a => k4 (hsub _ a)⟩
      · have hcn : at_ev ν n = c := by omega
        refine ⟨fun a => absurd hcn (a (1, n) (by simp) rfl), fun a => absurd hcn (a (3, n) (by simp) rfl), fun a => absurd hcn (a (4, n) (by simp) rfl), fun a => absurd hcn (a (2, n) (by simp) rfl)⟩
    · have := r2 k hk
      rw [e2, eo _ (by omega)]
      omega
    · intro b hb
      simp only [List.mem_cons] at hb
      rcases hb with rfl | rfl | rfl | rfl | hb
      · exact wn
      · exact wn
      · exact wn
      · exact wn
      · exact h.2.2.1 b hb
  | false =>
    rw [hc] at hs
    dsimp only [cond_false] at hs
    obtain ⟨hv, hs⟩ := am_bif hs
    simp only [Bool.and_eq_true, Bool.or_eq_true] at hv
    obtain ⟨v1, v2⟩ := hv
    have hi2 : i ≠ 2 := by
      have := at_nz_ok h.1.1 v1
      rw [at_ev_sub, at_ev_c, ei] at this
      omega
    have eo : ∀ j, j ≠ i → at_w (fl_up m.1 280 i x, m.2) j = at_w m j := fun j hj => by rw [at_w_up, if_neg hj]
    have ee : at_w (fl_up m.1 280 i x, m.2) i = x.toInt := by rw [at_w_up, if_pos rfl]
    have e2 := eo 2 (Ne.symm hi2)
    obtain ⟨s1, s2, s3, s4⟩ := at_svc_ok h ep ei wi ex (v := v)
    split at hs
    · cases hs
    · rename_i b2 hb2
      split at hs
      · cases hs
      · rename_i b1 hb1
        split at hs
        · cases hs
        · rename_i b3 hb3
          obtain ⟨w2, p2, q2⟩ := at_sv1_ok h.1.1 ei wi s1 hb2
          obtain ⟨w1, p1, q1⟩ := at_sv1_ok h.1.1 ei wi w2 hb1
          obtain ⟨w3, p3, q3⟩ := at_sv1_ok h.1.1 ei wi w1 hb3
          obtain ⟨w4, p4, q4⟩ := at_sv1_ok h.1.1 ei wi w3 hs
          have g1 : ∀ {w : Nat} {a b : List (Nat × at_A)} {c : Int}, (∀ q ∈ a, q.1 = w → q ∈ b) → at_nb ν b w c → at_nb ν a w c := fun hsub hnb q hq hw => hnb q (hsub q hq hw) hw
          refine ⟨⟨fun c hc16 hlt => ?_, fun k hk => ?_⟩, w4⟩
          · rw [e2] at hlt
            obtain ⟨k1, k2, k3, k4⟩ := r1 c hc16 hlt
            refine ⟨fun a => ?_, fun a => ?_, fun a => ?_, fun a => ?_⟩
            · have a3 : at_nb ν b3 1 c := g1 (fun q hq hw => p4 q hq (by rw [hw]; decide)) a
              have a1 : at_nb ν b1 1 c := g1 (fun q hq hw => p3 q hq (by rw [hw]; decide)) a3
              rcases (q1 c hc16).1 a1 with ⟨n1, n2⟩ | ⟨n1, n2⟩
              · have n1 : (i : Int) ≠ 444 + 61 * c := n1
                rw [eo _ (by omega)]
                exact k1 (g1 (fun q hq hw => p2 q (s2 q hq) (by rw [hw]; decide)) n2)
              · have n1 : (i : Int) = 444 + 61 * c := n1
                have ei' : 444 + 61 * c = i := by omega
                rw [ei', ee, ex]
                have := of_decide_eq_true (show decide (100 ≤ at_lo S.1.1 v) = true from n2)
                have := at_lo_le h.1.1.1 v
                omega
            · have a3 : at_nb ν b3 3 c := g1 (fun q hq hw => p4 q hq (by rw [hw]; decide)) a
              rcases (q3 c hc16).1 a3 with ⟨n1, n2⟩ | ⟨n1, n2⟩
              · have n1 : (i : Int) ≠ 450 + 61 * c := n1
                rw [eo _ (by omega)]
                exact k2 (g1 (fun q hq hw => p1 q (p2 q (s2 q hq) (by rw [hw]; decide)) (by rw [hw]; decide)) n2)
              · have n1 : (i : Int) = 450 + 61 * c := n1
                have ei' : 450 + 61 * c = i := by omega
                rw [ei', ee, ex]
                have := of_decide_eq_true (show decide (100 ≤ at_lo S.1.1 v) = true from n2)
                have := at_lo_le h.1.1.1 v
                omega
            · rcases (q4 c hc16).1 a with ⟨n1, n2⟩ | ⟨n1, n2⟩
              · have n1 : (i : Int) ≠ 454 + 61 * c := n1
                rw [eo _ (by omega)]
                exact k3 (g1 (fun q hq hw => p3 q (p1 q (p2 q (s2 q hq) (by rw [hw]; decide)) (by rw [hw]; decide)) (by rw [hw]; decide)) n2)
              · have n1 : (i : Int) = 454 + 61 * c := n1
                have ei' : 454 + 61 * c = i := by omega
                rw [ei', ee, ex]
                have := of_decide_eq_true (show decide (1 ≤ at_lo S.1.1 v) = true from n2)
                have := at_lo_le h.1.1.1 v
                omega
            · have a3 : at_nb ν b3 2 c := g1 (fun q hq hw => p4 q hq (by rw [hw]; decide)) a
              have a1 : at_nb ν b1 2 c := g1 (fun q hq hw => p3 q hq (by rw [hw]; decide)) a3
              have a2 : at_nb ν b2 2 c := g1 (fun q hq hw => p1 q hq (by rw [hw]; decide)) a1
              rcases (q2 c hc16).1 a2 with ⟨n1, n2⟩ | ⟨n1, n2⟩
              · have n1 : (i : Int) ≠ 445 + 61 * c := n1
                rw [eo (445 + 61 * c) (by omega)]
                have old := k4 (g1 (fun q hq _ => s2 q hq) n2)
                by_cases hcap : (i : Int) = 444 + 61 * c
                · have ei' : 444 + 61 * c = i := by omega
                  rw [ei', ee]
                  refine ⟨old.1, ?_⟩
                  rcases (q1 c hc16).2 hcap with ⟨o, eo1, eo2⟩ | ⟨o, eo1, eo2⟩
                  · exact s4 c o eo1 eo2 hcap n2
                  · exact absurd eo2 (a2 _ eo1 rfl)
                · rw [eo (444 + 61 * c) (by omega)]
                  exact old
              · have n1 : (i : Int) = 445 + 61 * c := n1
                have ei' : 445 + 61 * c = i := by omega
                rw [ei', ee, eo (444 + 61 * c) (by omega), ex]
                replace n2 : (match at_ff S.2.1 at_TA pl (at_sub idx (at_c 1)) with
                  | some c => at_nn S.1 v && at_le S.1 (at_sub v (at_mul 3600 c))
                  | none => false) = true := n2
                split at n2
                · rename_i cc ec
                  simp only [Bool.and_eq_true] at n2
                  have t1 := at_nn_ok h.1.1 n2.1
                  have t2 := at_le_ok h.1.1 n2.2
                  obtain ⟨f1, -⟩ := at_ff_ok h (p := 280) (i := 444 + 61 * c) ep (by rw [at_ev_sub, at_ev_c, ei]; omega) ec
                  rw [at_ev_sub, at_ev_mul, f1] at t2
                  refine ⟨t1, ?_⟩
                  show at_ev ν v ≤ 3600 * (m.1 280 (444 + 61 * c)).toInt
                  omega
                · cases n2
          · rw [e2]
            by_cases hm : 341 + 35 * k = i
            · rw [hm, ee]
              rcases v2 with v2 | v2
              · have := at_dj_ok h.1.1.1 v2
                rw [ei] at this
                exact absurd ⟨k, 0, by omega, by show (k : Int) ≤ 3 - 1; omega, by decide, by show (0 : Int) ≤ 1 - 1; decide, by show (i : Int) = 341 + 35 * k + 0; omega⟩ this
              · have := at_le_ok h.1.1 v2
                rw [at_ev_sub, en, ← ex] at this
                omega
            · rw [eo _ hm]
              exact r2 k hk
end ATU

end

/-! 63.store3.lean.txt -/
section
/-! ===== A WORD IS WRITTEN; rows that are copied ===== -/
section ATV
variable {X : fl_M → Prop} {m0 m : fl_M} {ν ν' : Nat → Int} {S : at_S}
theorem at_fin_wr {P : at_P} {t : Nat} {idx : at_A} {wr : List at_W} : (∀ w ∈ wr, w ∈ (fun e : at_W => bif wr.any (at_eqW e) then wr else e :: wr) (at_en P.1 t idx)) ∧ at_en P.1 t idx ∈ (fun e : at_W => bif wr.any (at_eqW e) then wr else e :: wr) (at_en P.1 t idx) := by
  dsimp only
  cases h : wr.any (at_eqW (at_en P.1 t idx)) with
  | true =>
    obtain ⟨b, hb, e⟩ := List.any_eq_true.mp h
    have := at_eqW_ok e
    exact ⟨fun w hw => hw, by rw [this]; exact hb⟩
  | false => exact ⟨fun w hw => List.mem_cons_of_mem _ hw, List.mem_cons_self⟩
theorem at_sv_ok (hX : ∀ (m : fl_M) (p i : Nat) (x : Int32), X m → p < fl_N m.2.2 → ¬ at_prot (fk_K p) i → X (fl_up m.1 p i x, m.2)) (h : at_GS X m0 m ν S) {t p i : Nat} {pl idx v : at_A} {x : Int32} (wp : at_wf S.1.1.length pl) (wi : at_wf S.1.1.length idx) (wv : at_wf S.1.1.length v) (ep : at_ev ν pl = p) (ei : at_ev ν idx = i) (ex : x.toInt = at_ev ν v) (hk : fk_K p = t) (hp : p < fl_N m.2.2) {S' : at_S} (hs : at_sv S t pl idx v = some S') : ∃ ν', at_ag S.1.1.length ν ν' ∧ S.1.1.length ≤ S'.1.1.length ∧ at_GS X m0 (fl_up m.1 p i x, m.2) ν' S' := by
  unfold at_sv at hs
  obtain ⟨hb, hs⟩ := am_bif hs
  simp only [Bool.and_eq_true] at hb
  obtain ⟨hb, hn⟩ := hb
  have hn := at_np_ok h.1.1.1 hn
  rw [ei] at hn
  have hXm := hX m p i x h.2.2.2.2.2.1 hp (hk ▸ hn)
  have hRG := h.2.2.2.1.up h.1.1 ei ex hk hb
  cases ht : Nat.beq t at_TA with
  | true =>
    rw [ht] at hs
    dsimp only [cond_true] at hs
    have ht := Nat.eq_of_beq_eq_true ht
    subst ht
    have h280 := at_isA hk
    subst h280
    obtain ⟨ν1, ag1, le1, g1, wf1, e1, same1⟩ := at_cs_ok h
    split at hs
    · rename_i brk hbk
      cases hs
      have ep1 : at_ev ν1 pl = (280 : Nat) := by rw [at_ev_ag ag1 wp]; exact ep
      have ei1 : at_ev ν1 idx = i := by rw [at_ev_ag ag1 wi]; exact ei
      have ex1 : x.toInt = at_ev ν1 v := by rw [at_ev_ag ag1 wv]; exact ex
      obtain ⟨k1, k2⟩ := at_svA_ok g1 wf1 e1 ep1 ei1 (wi.mono le1) ex1 hbk
      obtain ⟨q1, q2⟩ := at_fin_wr (P := (at_cs S).1.1) (t := at_TA) (idx := idx) (wr := (at_cs S).1.2.2.1)
      have hcv := at_en_ok g1.1.1.1 (t := at_TA) (idx := idx)
      rw [ei1] at hcv
      exact ⟨ν1, ag1, le1, g1.1, at_keep_ok g1 (wp.mono le1) (wi.mono le1) (wv.mono le1) ep1 ei1 ex1 hk, k2, hRG, k1, hXm, g1.2.2.2.2.2.2.up (hk ▸ hcv) q1 q2⟩
    · cases hs
  | false =>
    rw [ht] at hs
    cases hs
    obtain ⟨q1, q2⟩ := at_fin_wr (P := S.1) (t := t) (idx := idx) (wr := S.2.2.1)
    have hcv := at_en_ok h.1.1.1 (t := t) (idx := idx)
    rw [ei] at hcv
    have hne : p ≠ 280 := by
      rintro rfl
      rw [at_K280] at hk
      rw [← hk, Nat.beq_refl] at ht
      cases ht
    have hw : ∀ j, at_w (fl_up m.1 p i x, m.2) j = at_w m j := fun j => by
      unfold at_w
      dsimp only
      rw [at_up_ne (fun e => hne e.1.symm)]
    have hRL : at_RL ν S.2.2.2 (fl_up m.1 p i x, m.2) := by
      obtain ⟨r1, r2⟩ := h.2.2.2.2.1
      refine ⟨fun c hc hl => ?_, fun k hk => ?_⟩
      · rw [hw] at hl
        rw [hw, hw, hw, hw]
        exact r1 c hc hl
      · rw [hw, hw]
        exact r2 k hk
    exact ⟨ν, at_ag.rfl, Nat.le_refl _, h.1, at_keep_ok h wp wi wv ep ei ex hk, h.2.2.1, hRG, hRL, hXm, h.2.2.2.2.2.2.up (hk ▸ hcv) q1 q2⟩
/-- longs are written: nothing of this is told of them -/
theorem at_GS.lng {l : Nat → Nat → Int64} (hX2 : ∀ (m : fl_M) (l : Nat → Nat → Int64), X m → X (m.1, l, m.2.2)) (h : at_GS X m0 m ν S) : at_GS X m0 (m.1, l, m.2.2) ν S := ⟨h.1, h.2.1, h.2.2.1, h.2.2.2.1, h.2.2.2.2.1, hX2 m l h.2.2.2.2.2.1, h.2.2.2.2.2.2⟩
def at_eqR (a b : at_R) : Bool := Nat.beq a.1 b.1 && (decide (a.2.1 = b.2.1) && (decide (a.2.2.1 = b.2.2.1) && (decide (a.2.2.2.1 = b.2.2.2.1) && (decide (a.2.2.2.2.1 = b.2.2.2.2.1) && (decide (a.2.2.2.2.2.1 = b.2.2.2.2.2.1) && decide (a.2.2.2.2.2.2 = b.2.2.2.2.2.2))))))
theorem at_eqR_ok {a b : at_R} (h : at_eqR a b = true) : a = b := by
  obtain ⟨a1, a2, a3, a4, a5, a6, a7⟩ := a
  obtain ⟨b1, b2, b3, b4, b5, b6, b7⟩ := b
  unfold at_eqR at h
  simp only [Bool.and_eq_true, decide_eq_true_eq] at h
  obtain ⟨h1, h2, h3, h4, h5, h6, h7⟩ := h
  have h1 := Nat.eq_of_beq_eq_true h1
  subst h1 h2 h3 h4 h5 h6 h7
  rfl
/-- ints sp .. of a row are copied to dp .. of another one: n of them; N: how long the row is -/
def at_cp (S : at_S) (ta tb : Nat) (sp dp n N : Int) : Option at_S :=
  bif !(Nat.beq tb at_TA || (Nat.beq tb 80 || (Nat.beq tb 82 || (Nat.beq tb 74 || (Nat.beq tb 77 || Nat.beq tb 78))))) && ((at_rg tb).all (fun r => bif decide (sp = dp) then (at_rg ta).any (fun q => at_eqR q r) else (at_rg ta).any (fun q => at_eqR q r) && (decide (r.2.2.1 = 0 ∧ r.2.1 = 0 ∧ r.2.2.2.1 = 1) && decide (N ≤ r.2.2.2.2.1)))) then
    some (S.1, S.2.1.filter (fun f => !Nat.beq f.1 tb), (tb, false, dp, dp + n - 1) :: S.2.2.1, S.2.2.2)
  else none
theorem at_cp_ok (hX : ∀ (m : fl_M) (p : Nat) (w : Nat → Int32), X m → p < fl_N m.2.2 → (∀ j : Nat, ¬ at_prot (fk_K p) j) → X (fl_row m.1 p w, m.2)) (h : at_GS X m0 m ν S) {ta tb a b : Nat} {sp dp n N : Nat} (hka : fk_K a = ta) (hkb : fk_K b = tb) (ha : a < fl_N m.2.2) (hb : b < fl_N m.2.2) (hN : sp + n ≤ N) {S' : at_S} (hs : at_cp S ta tb sp dp n N = some S') : S'.1 = S.1 ∧ at_GS X m0 (fl_row m.1 b (va_cpy (m.1 a) (m.1 b) sp dp n), m.2) ν S' := by
  unfold at_cp at hs
  obtain ⟨hc, hs⟩ := am_bif hs
  cases hs
  simp only [Bool.and_eq_true, Bool.not_eq_true', Bool.or_eq_false_iff] at hc
  obtain ⟨⟨c1, c2, c3, c4, c6, c7⟩, c5⟩ := hc
  have hb280 : b ≠ 280 := by
    rintro rfl
    rw [at_K280] at hkb
    rw [← hkb, Nat.beq_refl] at c1
    cases c1
  have hpr : ∀ j : Nat, ¬ at_prot (fk_K b) j := by
    rw [hkb]
    rintro j (⟨e, -⟩ | e | e | e | e | e)
    · rw [e, Nat.beq_refl] at c1; cases c1
    · rw [e] at c2; cases c2
    · rw [e] at c3; cases c3
    · rw [e] at c4; cases c4
    · rw [e] at c6; cases c6
    · rw [e] at c7; cases c7
  have hw : ∀ j, at_w (fl_row m.1 b (va_cpy (m.1 a) (m.1 b) sp dp n), m.2) j = at_w m j := fun j => by
    unfold at_w
    dsimp only
    rw [fl_row_ne (Ne.symm hb280)]
  obtain ⟨h1, h2, h3, h4, h5, h6, h7⟩ := h
  refine ⟨rfl, h1, fun f hf => ?_, h3, ?_, ?_, hX m b _ h6 hb hpr, ?_⟩
  · obtain ⟨hf, hq⟩ := List.mem_filter.mp hf
    obtain ⟨⟨p, i, e1, e2, e3, e4⟩, hwf⟩ := h2 f hf
    refine ⟨⟨p, i, e1, e2, e3, ?_⟩, hwf⟩
    dsimp only
    rw [fl_row_ne]
    · exact e4
    · rintro rfl
      rw [hkb] at e3
      rw [← e3, Nat.beq_refl] at hq
      cases hq
  · intro p hp r hr j hj
    dsimp only at hp ⊢
    by_cases hpb : p = b
    · subst hpb
      rw [fl_row_self]
      unfold va_cpy
      split
      · rename_i hj2
        have c5 := List.all_eq_true.mp c5 r (hkb ▸ hr)
        cases hsd : decide ((sp : Int) = dp) with
        | true =>
          rw [hsd] at c5
          obtain ⟨q, hq, e⟩ := List.any_eq_true.mp c5
          have e := at_eqR_ok e
          subst e
          have hsd := of_decide_eq_true hsd
          have : sp + (j - dp) = j := by omega
          rw [this]
          exact h4 a ha q (hka ▸ hq) j hj
        | false =>
          rw [hsd] at c5
          simp only [cond_false, Bool.and_eq_true, decide_eq_true_eq] at c5
          obtain ⟨c6, ⟨c7, c8, c9⟩, c10⟩ := c5
          obtain ⟨q, hq, e⟩ := List.any_eq_true.mp c6
          have e := at_eqR_ok e
          subst e
          refine h4 a ha q (hka ▸ hq) _ ⟨0, ((sp + (j - dp) : Nat) : Int), by omega, by omega, by omega, by omega, ?_⟩
          rw [c7, c8]
          omega
      · exact h4 p hp r hr j hj
    · rw [fl_row_ne hpb]
      exact h4 p hp r hr j hj
  · obtain ⟨r1, r2⟩ := h5
    refine ⟨fun c hc hl => ?_, fun k hk => ?_⟩
    · rw [hw] at hl
      rw [hw, hw, hw, hw]
      exact r1 c hc hl
    · rw [hw, hw]
      exact r2 k hk
  · refine ⟨h7.1, fun p j hne => ?_⟩
    dsimp only at hne
    by_cases hpb : p = b
    · subst hpb
      rw [fl_row_self] at hne
      unfold va_cpy at hne
      split at hne
      · rename_i hj2
        refine ⟨_, List.mem_cons_self, hkb.symm, ?_⟩
        show (dp : Int) ≤ j ∧ (j : Int) ≤ dp + n - 1
        omega
      · obtain ⟨w, hw', hcv⟩ := h7.2 p j hne
        exact ⟨w, List.mem_cons_of_mem _ hw', hcv⟩
    · rw [fl_row_ne hpb] at hne
      obtain ⟨w, hw', hcv⟩ := h7.2 p j hne
      exact ⟨w, List.mem_cons_of_mem _ hw', hcv⟩
end ATV

end

/-! 64.val.lean.txt -/
section
/-! ===== the looker's values and locals ===== -/
/-- int, long, reference (kind, place), table, the sign of a number -/
abbrev at_V : Type := at_A ⊕ (at_A ⊕ ((Nat × at_A) ⊕ (Nat ⊕ at_A)))
abbrev at_L : Type := List (Option at_V)
def at_RV (ν : Nat → Int) (h : Nat) (a : at_V) (v : fl_V) : Prop := match a with
  | .inl a => ∃ x, v = .inl x ∧ x.toInt = at_ev ν a
  | .inr (.inl a) => ∃ x, v = .inr (.inl x) ∧ x.toInt = at_ev ν a
  | .inr (.inr (.inl q)) => ∃ p, v = .inr (.inr (.inl (q.1, p))) ∧ at_ev ν q.2 = (p : Int) ∧ fk_K p = q.1 ∧ p < fl_N h
  | .inr (.inr (.inr (.inl c))) => v = .inr (.inr (.inr (.inl c)))
  | .inr (.inr (.inr (.inr d))) => ∃ x : Int32, v = .inl x ∧ ((x = 1 ∧ 0 < at_ev ν d) ∨ (x = 0 ∧ at_ev ν d = 0) ∨ (x = -1 ∧ at_ev ν d < 0))
def at_wV (n : Nat) (a : at_V) : Prop := match a with
  | .inl a => at_wf n a
  | .inr (.inl a) => at_wf n a
  | .inr (.inr (.inl q)) => at_wf n q.2
  | .inr (.inr (.inr (.inl _))) => True
  | .inr (.inr (.inr (.inr d))) => at_wf n d
def at_cat (a : at_V) : Nat := match a with
  | .inr (.inl _) => 2
  | _ => 1
theorem at_RV.cat {ν : Nat → Int} {h : Nat} {a : at_V} {v : fl_V} (hv : at_RV ν h a v) : fl_cat v = at_cat a := by
  rcases a with a | a | q | c | d
  · obtain ⟨x, rfl, -⟩ := hv; rfl
  · obtain ⟨x, rfl, -⟩ := hv; rfl
  · obtain ⟨p, rfl, -⟩ := hv; rfl
  · cases hv; rfl
  · obtain ⟨x, rfl, -⟩ := hv; rfl
theorem at_RV.ok {ν : Nat → Int} {h : Nat} {a : at_V} {v : fl_V} (hv : at_RV ν h a v) : fl_ok h v := by
  rcases a with a | a | q | c | d
  · obtain ⟨x, rfl, -⟩ := hv; exact True.intro
  · obtain ⟨x, rfl, -⟩ := hv; exact True.intro
  · obtain ⟨p, rfl, -, h1, h2⟩ := hv; exact ⟨h1, h2⟩
  · cases hv; exact True.intro
  · obtain ⟨x, rfl, -⟩ := hv; exact True.intro
theorem fl_N_mono {h h' : Nat} (hh : h ≤ h') : fl_N h ≤ fl_N h' := by unfold fl_N; omega
theorem at_RV.ag {ν ν' : Nat → Int} {n h h' : Nat} {a : at_V} {v : fl_V} (hv : at_RV ν h a v) (hw : at_wV n a) (hag : at_ag n ν ν') (hh : h ≤ h') : at_RV ν' h' a v := by
  rcases a with a | a | q | c | d
  · obtain ⟨x, e1, e2⟩ := hv; exact ⟨x, e1, by rw [at_ev_ag hag hw]; exact e2⟩
  · obtain ⟨x, e1, e2⟩ := hv; exact ⟨x, e1, by rw [at_ev_ag hag hw]; exact e2⟩
  · obtain ⟨p, e1, e2, e3, e4⟩ := hv; exact ⟨p, e1, by rw [at_ev_ag hag hw]; exact e2, e3, Nat.lt_of_lt_of_le e4 (fl_N_mono hh)⟩
  · exact hv
  · obtain ⟨x, e1, e2⟩ := hv; exact ⟨x, e1, by rw [at_ev_ag hag hw]; exact e2⟩
theorem at_wV.mono {n k : Nat} {a : at_V} (h : at_wV n a) (hk : n ≤ k) : at_wV k a := by
  rcases a with a | a | q | c | d
  · exact at_wf.mono h hk
  · exact at_wf.mono h hk
  · exact at_wf.mono h hk
  · exact True.intro
  · exact at_wf.mono h hk
/-- stacks -/
def at_RS (ν : Nat → Int) (h : Nat) : List at_V → List fl_V → Prop
  | [], [] => True
  | a :: r, v :: s => at_RV ν h a v ∧ at_RS ν h r s
  | _, _ => False
theorem at_RS.cons {ν : Nat → Int} {h : Nat} {a : at_V} {r : List at_V} {s : List fl_V} (hs : at_RS ν h (a :: r) s) : ∃ v s', s = v :: s' ∧ at_RV ν h a v ∧ at_RS ν h r s' := by
  cases s with
  | nil => cases hs
  | cons v s' => exact ⟨v, s', rfl, hs.1, hs.2⟩
theorem at_RS.nil {ν : Nat → Int} {h : Nat} {s : List fl_V} (hs : at_RS ν h [] s) : s = [] := by
  cases s with
  | nil => rfl
  | cons v s' => cases hs
theorem at_RS.ok {ν : Nat → Int} {h : Nat} {r : List at_V} {s : List fl_V} (hs : at_RS ν h r s) : ∀ v ∈ s, fl_ok h v := by
  induction r generalizing s with
  | nil => rw [hs.nil]; intro v hv; cases hv
  | cons a r ih =>
    obtain ⟨v, s', rfl, h1, h2⟩ := hs.cons
    intro w hw
    rcases List.mem_cons.mp hw with rfl | hw
    · exact h1.ok
    · exact ih h2 w hw
theorem at_RS.ag {ν ν' : Nat → Int} {n h h' : Nat} {r : List at_V} {s : List fl_V} (hs : at_RS ν h r s) (hw : ∀ a ∈ r, at_wV n a) (hag : at_ag n ν ν') (hh : h ≤ h') : at_RS ν' h' r s := by
  induction r generalizing s with
  | nil => rw [hs.nil]; exact True.intro
  | cons a r ih =>
    obtain ⟨v, s', rfl, h1, h2⟩ := hs.cons
    exact ⟨h1.ag (hw a List.mem_cons_self) hag hh, ih h2 (fun b hb => hw b (List.mem_cons_of_mem _ hb))⟩
theorem at_RS.len {ν : Nat → Int} {h : Nat} {r : List at_V} {s : List fl_V} (hs : at_RS ν h r s) : s.length = r.length := by
  induction r generalizing s with
  | nil => rw [hs.nil]; rfl
  | cons a r ih =>
    obtain ⟨v, s', rfl, h1, h2⟩ := hs.cons
    rw [List.length_cons, List.length_cons, ih h2]
theorem at_RS.take {ν : Nat → Int} {h : Nat} {r : List at_V} {s : List fl_V} (hs : at_RS ν h r s) (n : Nat) : at_RS ν h (r.take n) (s.take n) ∧ at_RS ν h (r.drop n) (s.drop n) := by
  induction r generalizing s n with
  | nil => rw [hs.nil]; simp [at_RS]
  | cons a r ih =>
    obtain ⟨v, s', rfl, h1, h2⟩ := hs.cons
    cases n with
    | zero => exact ⟨True.intro, hs⟩
    | succ n => exact ⟨⟨h1, (ih h2 n).1⟩, (ih h2 n).2⟩
theorem at_RS.app {ν : Nat → Int} {h : Nat} {r1 r2 : List at_V} {s1 s2 : List fl_V} (h1 : at_RS ν h r1 s1) (h2 : at_RS ν h r2 s2) : at_RS ν h (r1 ++ r2) (s1 ++ s2) := by
  induction r1 generalizing s1 with
  | nil => rw [h1.nil]; exact h2
  | cons a r ih =>
    obtain ⟨v, s', rfl, k1, k2⟩ := h1.cons
    exact ⟨k1, ih k2⟩
theorem at_RS.rev {ν : Nat → Int} {h : Nat} {r : List at_V} {s : List fl_V} (hs : at_RS ν h r s) : at_RS ν h r.reverse s.reverse := by
  induction r generalizing s with
  | nil => rw [hs.nil]; exact True.intro
  | cons a r ih =>
    obtain ⟨v, s', rfl, k1, k2⟩ := hs.cons
    rw [List.reverse_cons, List.reverse_cons]
    exact (ih k2).app ⟨k1, True.intro⟩
theorem at_RS.sum {ν : Nat → Int} {h : Nat} {r : List at_V} {s : List fl_V} (hs : at_RS ν h r s) : fl_sum s = (r.map at_cat).sum := by
  induction r generalizing s with
  | nil => rw [hs.nil]; rfl
  | cons a r ih =>
    obtain ⟨v, s', rfl, k1, k2⟩ := hs.cons
    have := ih k2
    unfold fl_sum at this ⊢
    rw [List.map_cons, List.map_cons, List.sum_cons, List.sum_cons, this, k1.cat]
/-- locals -/
def at_LR (ν : Nat → Int) (h : Nat) (lv : at_L) (fl : fl_L) : Prop := lv.length = fl.length ∧ ∀ (i : Nat) (a : at_V), lv[i]? = some (some a) → ∃ v, fl[i]? = some (some v) ∧ at_RV ν h a v
theorem at_LR.ag {ν ν' : Nat → Int} {n h h' : Nat} {lv : at_L} {fl : fl_L} (hl : at_LR ν h lv fl) (hw : ∀ a, some a ∈ lv → at_wV n a) (hag : at_ag n ν ν') (hh : h ≤ h') : at_LR ν' h' lv fl := by
  refine ⟨hl.1, fun i a e => ?_⟩
  obtain ⟨v, e1, e2⟩ := hl.2 i a e
  exact ⟨v, e1, e2.ag (hw a (List.mem_of_getElem? e)) hag hh⟩
def at_s0 (lv : at_L) (i : Nat) : at_L := match i with
  | 0 => lv
  | j + 1 => match lv[j]? with
    | some (some w) => bif Nat.beq (at_cat w) 2 then lv.set j none else lv
    | _ => lv
def at_s (lv : at_L) (i : Nat) (v : at_V) : at_L := bif Nat.beq (at_cat v) 2 then ((at_s0 lv i).set i (some v)).set (i + 1) none else (at_s0 lv i).set i (some v)
theorem at_set_get {l : at_L} {i j : Nat} {o : Option at_V} {w : at_V} (h : (l.set i o)[j]? = some (some w)) : (j = i ∧ o = some w ∧ i < l.length) ∨ (j ≠ i ∧ l[j]? = some (some w)) := by
  by_cases hj : j = i
  · subst hj
    by_cases hl : j < l.length
    · rw [List.getElem?_set_self hl] at h
      exact Or.inl ⟨rfl, Option.some.inj h, hl⟩
    · rw [List.getElem?_eq_none (by rw [List.length_set]; omega)] at h
      cases h
  · rw [List.getElem?_set_ne (Ne.symm hj)] at h
    exact Or.inr ⟨hj, h⟩
theorem at_s0_get {lv : at_L} {i j : Nat} {w : at_V} (h : (at_s0 lv i)[j]? = some (some w)) : lv[j]? = some (some w) ∧ (j + 1 = i → at_cat w ≠ 2) := by
  cases i with
  | zero => exact ⟨h, fun e => absurd e (by omega)⟩
  | succ k =>
    unfold at_s0 at h
    dsimp only at h
    split at h
    · rename_i u hu
      cases hc : Nat.beq (at_cat u) 2 with
      | true =>
        rw [hc] at h
        rcases at_set_get h with ⟨-, h2, -⟩ | ⟨h1, h2⟩
        · cases h2
        · exact ⟨h2, fun e => absurd (by omega) h1⟩
      | false =>
        rw [hc] at h
        refine ⟨h, fun e e2 => ?_⟩
        have e3 : j = k := by omega
        subst e3
        have h : lv[j]? = some (some w) := h
        rw [hu] at h
        cases h
        rw [e2] at hc
        cases hc
    · rename_i hn
      refine ⟨h, fun e => ?_⟩
      have e2 : j = k := by omega
      subst e2
      exact absurd h (hn w)
theorem at_s0_len (lv : at_L) (i : Nat) : (at_s0 lv i).length = lv.length := by
  unfold at_s0
  split
  · rfl
  · split
    · cases Nat.beq (at_cat _) 2
      · rfl
      · exact List.length_set
    · rfl
theorem at_s_len (lv : at_L) (i : Nat) (v : at_V) : (at_s lv i v).length = lv.length := by
  unfold at_s
  cases Nat.beq (at_cat v) 2
  · simp [at_s0_len]
  · simp [at_s0_len]
theorem fl_s0_len (lv : fl_L) (i : Nat) : (fl_s0 lv i).length = lv.length := by
  unfold fl_s0
  split
  · rfl
  · split
    · split
      · exact List.length_set
      · rfl
    · rfl
theorem fl_s_len (lv : fl_L) (i : Nat) (v : fl_V) : (fl_s lv i v).length = lv.length := by
  unfold fl_s
  split <;> simp [fl_s0_len]
theorem at_s_get {lv : at_L} {i j : Nat} {v w : at_V} (h : (at_s lv i v)[j]? = some (some w)) : (j = i ∧ w = v ∧ i < lv.length) ∨ (j ≠ i ∧ lv[j]? = some (some w) ∧ (j + 1 = i → at_cat w ≠ 2) ∧ (at_cat v = 2 → j ≠ i + 1)) := by
  unfold at_s at h
  cases hc : Nat.beq (at_cat v) 2 with
  | true =>
    rw [hc] at h
    rcases at_set_get h with ⟨-, h2, -⟩ | ⟨h1, h2⟩
    · cases h2
    · rcases at_set_get h2 with ⟨h3, h4, h5⟩ | ⟨h3, h4⟩
      · rw [at_s0_len] at h5
        exact Or.inl ⟨h3, (Option.some.inj h4).symm, h5⟩
      · obtain ⟨h5, h6⟩ := at_s0_get h4
        exact Or.inr ⟨h3, h5, h6, fun _ => h1⟩
  | false =>
    rw [hc] at h
    rcases at_set_get h with ⟨h3, h4, h5⟩ | ⟨h3, h4⟩
    · rw [at_s0_len] at h5
      exact Or.inl ⟨h3, (Option.some.inj h4).symm, h5⟩
    · obtain ⟨h5, h6⟩ := at_s0_get h4
      refine Or.inr ⟨h3, h5, h6, fun e => ?_⟩
      rw [e] at hc
      cases hc
theorem fl_s0_put {lv : fl_L} {i j : Nat} {w : fl_V} (h : lv[j]? = some (some w)) (h1 : j + 1 = i → fl_cat w ≠ 2) : (fl_s0 lv i)[j]? = some (some w) := by
  unfold fl_s0
  split
  · exact h
  · rename_i k
    split
    · rename_i u hu
      split
      · rename_i hc
        have hne : k ≠ j := by
          rintro rfl
          rw [hu] at h
          cases h
          exact h1 rfl hc
        rw [List.getElem?_set_ne hne]
        exact h
      · exact h
    · exact h
theorem fl_s_put {lv : fl_L} {i j : Nat} {v w : fl_V} (h : lv[j]? = some (some w)) (hj : j ≠ i) (h1 : j + 1 = i → fl_cat w ≠ 2) (h2 : fl_cat v = 2 → j ≠ i + 1) : (fl_s lv i v)[j]? = some (some w) := by
  unfold fl_s
  split
  · rename_i hc
    rw [List.getElem?_set_ne (Ne.symm (h2 hc)), List.getElem?_set_ne (Ne.symm hj)]
    exact fl_s0_put h h1
  · rw [List.getElem?_set_ne (Ne.symm hj)]
    exact fl_s0_put h h1
theorem fl_s_self {lv : fl_L} {i : Nat} {v : fl_V} (h : i < lv.length) : (fl_s lv i v)[i]? = some (some v) := by
  unfold fl_s
  split
  · rw [List.getElem?_set_ne (by omega), List.getElem?_set_self (by rw [fl_s0_len]; exact h)]
  · rw [List.getElem?_set_self (by rw [fl_s0_len]; exact h)]
theorem at_LR.s {ν : Nat → Int} {h : Nat} {lv : at_L} {fl : fl_L} {i : Nat} {a : at_V} {v : fl_V} (hl : at_LR ν h lv fl) (hv : at_RV ν h a v) : at_LR ν h (at_s lv i a) (fl_s fl i v) := by
  refine ⟨by rw [at_s_len, fl_s_len]; exact hl.1, fun j b e => ?_⟩
  rcases at_s_get e with ⟨rfl, rfl, hi⟩ | ⟨h1, h2, h3, h4⟩
  · exact ⟨v, fl_s_self (by rw [← hl.1]; exact hi), hv⟩
  · obtain ⟨w, e1, e2⟩ := hl.2 j b h2
    exact ⟨w, fl_s_put e1 h1 (fun q => by rw [e2.cat]; exact h3 q) (fun q => h4 (by rw [← hv.cat]; exact q)), e2⟩
theorem at_s_mem {lv : at_L} {i : Nat} {a b : at_V} (h : some b ∈ at_s lv i a) : b = a ∨ some b ∈ lv := by
  obtain ⟨j, e⟩ := List.getElem?_of_mem h
  rcases at_s_get e with ⟨-, h2, -⟩ | ⟨-, h2, -⟩
  · exact Or.inl h2
  · exact Or.inr (List.mem_of_getElem? h2)

end
