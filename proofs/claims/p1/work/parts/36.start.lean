/-! ===== THE CLAIM OUT OF THE PURE MACHINE'S RUN OF THE LAW ===== -/
theorem am_eqi {args : Array Value} {s : State} {T : Term} {z : Int32} (h : (Cond.eq T (.int z)).before args s = true) : T.eval args s none [] s = some (.int z) := by
  cases hv : T.eval args s none [] s with
  | none => simp [Cond.before, Cond.holds, Cond.value, hv] at h
  | some w =>
    have hz : (Term.int z).eval args s none [] s = some (.int z) := rfl
    simp only [Cond.before, Cond.holds, Cond.value, hv, hz] at h
    cases w <;> simp_all
/-- a table that nobody writes, at the start -/
theorem am_stat {args : Array Value} {s : State} {C n d : String} {N : Nat} {f : Nat → Int32} (hN : N < 2 ^ 31) (harr : (Cond.arrayOf (.static C n d) .int).before args s = true) (hlen : (Cond.eq (.length (.static C n d)) (.int (Int32.ofNat N))).before args s = true)
    (hel : ∀ j : Nat, j < N → (Cond.eq (.elem (.static C n d) (.int (Int32.ofNat j))) (.int (f j))).before args s = true) (hex : (Cond.exactly (.static C n d) "[I").before args s = true)
    (hl : (Cond.laysStatic C n d).before args s = true) (hini : (Cond.initialized C).before args s = true) :
    ∃ t : Nat, t < s.heap.size ∧ va_X t N f s s.heap ∧ (∃ cell : Cell, s.heap[t]? = some cell ∧ s.vm.findClass "[I" = some cell.cls) ∧ va_Z C n d (.ref t) (fun q => s.heap.size ≤ q) s s.heap := by
  have hv := am_eqi hlen
  obtain ⟨t, cell, ht, hat, hvv⟩ := Term.length_spec hv
  have hsz : cell.slots.size < 2 ^ 31 := by
    simp only [Term.eval, Option.bind_eq_bind] at hv
    have ht' := ht
    simp only [Term.eval, Option.bind_eq_bind] at ht'
    rw [ht'] at hv
    simp only [Option.bind_some, hat] at hv
    by_cases hlt : cell.slots.size < 2147483648
    · exact hlt
    · simp [hlt] at hv
  obtain ⟨hcell, hkn, -, -⟩ := State.arrayAt?_spec hat
  obtain ⟨hof, -⟩ := Cond.arrayOf_spec harr ht hcell
  have hN2 : cell.slots.size = N := by
    have e : Int32.ofNat cell.slots.size = Int32.ofNat N := (Value.int.inj hvv).symm
    have e1 := Int32.toInt_ofNat_small hsz
    have e2 := Int32.toInt_ofNat_small hN
    rw [e, e2] at e1
    omega
  refine ⟨t, (Array.getElem?_eq_some_iff.mp hcell).1, ⟨cell, hcell, hof, hkn, hN2, fun j hj => ?_⟩, ?_, va_Zof hl hini ht (fun a ha => Nat.not_le.mpr ha)⟩
  · obtain ⟨a, i, cell2, h1, h2, h3, h4, h5⟩ := Term.elem_spec (am_eqi (hel j hj))
    cases ht.symm.trans h1
    cases hat.symm.trans h3
    have hi : i = Int32.ofNat j := by
      have e : (Term.int (Int32.ofNat j)).eval args s none [] s = some (.int (Int32.ofNat j)) := rfl
      cases h2.symm.trans e
      rfl
    have hc : i.toNatClampNeg = j := by rw [hi]; exact Int32.toNatClampNeg_ofNat_of_lt (Nat.lt_trans hj hN)
    rw [hc] at h5
    exact h5
  · obtain ⟨a, c, cell2, k, h1, h2, h3, -, -, h6, -⟩ := Cond.exactly_spec hex
    cases ht.symm.trans h1
    cases hcell.symm.trans h3
    exact ⟨cell, hcell, by rw [h6]; exact h2⟩
def pw_okt (k : Nat) : Bool := match pw_S.getD k ("", "", "") with
  | (C, n, d) => decide (Cond.arrayOf (.static C n d) .int ∈ flatC (Jvm.Cond.and given_1 narrow_1)) && (decide (Cond.eq (.length (.static C n d)) (.int (Int32.ofNat (pw_tab_l.getD k []).length)) ∈ flatC (Jvm.Cond.and given_1 narrow_1)) && (decide (Cond.exactly (.static C n d) "[I" ∈ flatC (Jvm.Cond.and given_1 narrow_1)) && (decide (Cond.laysStatic C n d ∈ lw_tbl) && (decide (Cond.initialized C ∈ lw_tbl) &&
    (List.range (pw_tab_l.getD k []).length).all (fun j => decide (Cond.eq (.elem (.static C n d) (.int (Int32.ofNat j))) (.int (pw_tbl k j)) ∈ flatC (Jvm.Cond.and given_1 narrow_1)))))))
set_option maxRecDepth 100000 in
theorem pw_okt_all : (List.range pw_S.length).all pw_okt = true := by decide +kernel
set_option maxRecDepth 100000 in
theorem pw_okt_len : (List.range pw_S.length).all (fun k => decide ((pw_tab_l.getD k []).length < 2 ^ 31)) = true := by decide +kernel
theorem pw_stat {args : Array Value} {s : State} (hts : ∀ w ∈ lw_tbl, w.before args s = true) (hgv : (Jvm.Cond.and given_1 narrow_1).before args s = true) {k : Nat} (hk : k < pw_S.length) :
    ∃ t : Nat, t < s.heap.size ∧ va_X t (pw_tab_l.getD k []).length (pw_tbl k) s s.heap ∧ (∃ cell : Cell, s.heap[t]? = some cell ∧ s.vm.findClass "[I" = some cell.cls) ∧ va_Z (pw_S.getD k ("", "", "")).1 (pw_S.getD k ("", "", "")).2.1 (pw_S.getD k ("", "", "")).2.2 (.ref t) (fun q => s.heap.size ≤ q) s s.heap := by
  have h := List.all_eq_true.mp pw_okt_all k (List.mem_range.mpr hk)
  have hl := of_decide_eq_true (List.all_eq_true.mp pw_okt_len k (List.mem_range.mpr hk))
  unfold pw_okt at h
  generalize hq : pw_S.getD k ("", "", "") = q at h ⊢
  obtain ⟨C, n, d⟩ := q
  simp only [Bool.and_eq_true, decide_eq_true_eq] at h
  obtain ⟨h1, h2, h3, h4, h5, h6⟩ := h
  have fl := flat_of_before _ hgv
  exact am_stat hl (fl _ h1) (fl _ h2) (fun j hj => fl _ (of_decide_eq_true (List.all_eq_true.mp h6 j (List.mem_range.mpr hj)))) (fl _ h3) (hts _ h4) (hts _ h5)
def pw_cs (b : Nat) (t : Nat → Nat) (c : Nat) : Nat := match c with
  | 0 => b
  | k + 1 => t k
/-- the arrays' classes -/
theorem pw_arr {args : Array Value} {s : State} (hts : ∀ w ∈ pw_W, w.before args s = true) (htN : ∀ w ∈ pw_N, va_Nw w s) : ∃ AT : Nat → ClassId, ∀ (t : Nat) (ty : FieldType), pw_ty[t]? = some ty → ArrOfT s (AT t) ty ∧ va_RA s (AT t) ty := by
  have key : ∀ t : Nat, ∃ c : ClassId, ∀ ty : FieldType, pw_ty[t]? = some ty → ArrOfT s c ty ∧ va_RA s c ty := by
    intro t
    by_cases ht : t < pw_ty.length
    · by_cases h2 : 2 ≤ t
      · obtain ⟨h5, h6⟩ := pw_elt_ok h2 ht
        obtain ⟨-, g⟩ := pw_G8 0 (fun _ => 0)
        have hw : Cond.arrayOver (.object (pw_cn (pw_elt t))) ∈ pw_N := by
          have hc : t = 2 ∨ t = 3 ∨ t = 4 := by
            have : t < 5 := ht
            omega
          rcases hc with rfl | rfl | rfl <;> exact pw_n_ao (by decide +kernel)
        obtain ⟨comp, c, k, q1, q2, q3, q4, q5⟩ := Cond.arrayOver_spec (va_AO.use (A := args) (htN _ hw))
        refine ⟨c, fun ty hty => ?_⟩
        cases h6.symm.trans hty
        exact ⟨fun N z => ⟨(fun k h => by cases h), k, q3, comp, q4⟩, k, comp, q3, q4, q1, q5⟩
      · rcases (show t = 0 ∨ t = 1 by omega) with rfl | rfl
        · obtain ⟨c, k, comp, q1, q2, q3⟩ := Cond.arrayClass_spec (hts _ pw_G7.1)
          refine ⟨c, fun ty hty => ?_⟩
          cases (show pw_ty[0]? = some .int from rfl).symm.trans hty
          exact ⟨fun N z => ⟨(fun k h => by cases h), k, q2, comp, q3⟩, q1⟩
        · obtain ⟨c, k, comp, q1, q2, q3⟩ := Cond.arrayClass_spec (hts _ pw_G7.2.1)
          refine ⟨c, fun ty hty => ?_⟩
          cases (show pw_ty[1]? = some .long from rfl).symm.trans hty
          exact ⟨fun N z => ⟨(fun k h => by cases h), k, q2, comp, q3⟩, q1⟩
    · refine ⟨0, fun ty hty => ?_⟩
      rw [List.getElem?_eq_none (by omega)] at hty
      cases hty
  exact ⟨fun t => Classical.choose (key t), fun t => Classical.choose_spec (key t)⟩
theorem pw_known {args : Array Value} {s : State} (hts : ∀ w ∈ pw_W, w.before args s = true) : ∃ D : va_G, ∀ (c : Nat) (q : vw_C), pw_kl[c]? = some q → u_Kn s q.1 q.2.1 q.2.2 (D.1 c) (D.2 c) := by
  have key : ∀ c : Nat, ∃ d : ClassId × (Nat → Nat), ∀ q : vw_C, pw_kl[c]? = some q → u_Kn s q.1 q.2.1 q.2.2 d.1 d.2 := by
    intro c
    cases hq : pw_kl[c]? with
    | none => exact ⟨(0, fun _ => 0), fun q h => by cases h⟩
    | some r =>
      have hl := pw_kl_lt hq
      have hr : r = (pw_cn c, pw_T c, (pw_fld_d.getD c []).length) := Option.some.inj (hq.symm.trans (pw_kl_eq hl))
      obtain ⟨-, g2, -⟩ := pw_G2 0 (fun _ => 0) c r hq
      have hi : Cond.instantiable r.1 r.2.2 ∈ pw_W := by
        subst hr
        refine pw_m_ni ?_
        have h0 : pw_Wni[c]? = some (Cond.instantiable (pw_cn c) (pw_fld_d.getD c []).length) := by
          have hc : c = 0 ∨ c = 1 ∨ c = 2 ∨ c = 3 ∨ c = 4 ∨ c = 5 ∨ c = 6 ∨ c = 7 ∨ c = 8 ∨ c = 9 := by omega
          rcases hc with rfl | rfl | rfl | rfl | rfl | rfl | rfl | rfl | rfl | rfl <;> rfl
        exact List.mem_of_getElem? h0
      obtain ⟨c0, iS, h⟩ := u_known (C := r.1) (T := r.2.1) (N := r.2.2) hts g2 (hts _ hi)
      exact ⟨(c0, iS), fun q h' => by cases h'; exact h⟩
  exact ⟨(fun c => (Classical.choose (key c)).1, fun c => (Classical.choose (key c)).2), fun c q h => Classical.choose_spec (key c) q h⟩
/-- the law's run on the pure machine -/
def pw_Run (L : Nat) (xs : Nat → Int32) : Prop := ∃ (f : Nat) (M : am_M), am_ev (pw_P L xs) f 0 0 (lv_args 0 [.retAddr 0]) [] ([], 0) = some (some (.int 1), M) ∧ M.1.length ≤ 600000 ∧ M.2 ≤ 7302250
theorem pw_start {p : Program} {e : Env} {s : State} {m : MethodId} {below : List Frame} {meth : Method} {c : Code} (l : Launch) {b L : Nat} {xs : Nat → Int32} (hrun : pw_Run L xs) (C0 : lw_At p s m meth c b L xs) : W p l e room_1 s m #[Value.ref b] below meth c s.heap [] 0 0 (lw_Z below #[Value.ref b] s) (entryFrame m ([Value.ref b] : List Value).toArray 4) := by
  obtain ⟨hx, hb, hr, hml, hown, hts, hX, hbl, hlocks, hgv⟩ := id C0
  obtain ⟨f, M, hev, hm1, hm2⟩ := hrun
  have htW : ∀ w ∈ pw_W, w.before #[Value.ref b] s = true := fun w hw => hts w (pw_W_in w hw)
  have htN : ∀ w ∈ pw_N, va_Nw w s := fun w hw => by
    have h1 := pw_N_nw w hw
    have h2 := hts w (pw_N_in w hw)
    cases w <;> first | (cases h1; done) | exact va_Nw.of rfl h2 | (rename_i ty; cases ty <;> first | (cases h1; done) | exact va_AO.of h2)
  obtain ⟨D, hKn⟩ := pw_known htW
  obtain ⟨AT, hAT⟩ := pw_arr htW htN
  have hst : ∀ k : Nat, ∃ t : Nat, k < pw_S.length → t < s.heap.size ∧ va_X t (pw_tab_l.getD k []).length (pw_tbl k) s s.heap ∧ (∃ cell : Cell, s.heap[t]? = some cell ∧ s.vm.findClass "[I" = some cell.cls) ∧ va_Z (pw_S.getD k ("", "", "")).1 (pw_S.getD k ("", "", "")).2.1 (pw_S.getD k ("", "", "")).2.2 (.ref t) (fun q => s.heap.size ≤ q) s s.heap := by
    intro k
    by_cases hk : k < pw_S.length
    · obtain ⟨t, h⟩ := pw_stat hts hgv hk
      exact ⟨t, fun _ => h⟩
    · exact ⟨0, fun h => absurd h hk⟩
  obtain ⟨t, ht⟩ : ∃ t : Nat → Nat, ∀ k : Nat, k < pw_S.length → t k < s.heap.size ∧ va_X (t k) (pw_tab_l.getD k []).length (pw_tbl k) s s.heap ∧ (∃ cell : Cell, s.heap[t k]? = some cell ∧ s.vm.findClass "[I" = some cell.cls) ∧ va_Z (pw_S.getD k ("", "", "")).1 (pw_S.getD k ("", "", "")).2.1 (pw_S.getD k ("", "", "")).2.2 (.ref (t k)) (fun q => s.heap.size ≤ q) s s.heap := ⟨fun k => Classical.choose (hst k), fun k => Classical.choose_spec (hst k)⟩
  have hK : va_K D (am_kl pw_B) (am_tys pw_B (AT, pw_cs b t, s.heap.size)) s := by
    refine ⟨hKn, fun k q hq => ?_⟩
    simp only [am_tys, List.getElem?_mapIdx, Option.map_eq_some_iff] at hq
    obtain ⟨ty, h1, rfl⟩ := hq
    exact hAT k ty h1
  have hKc : am_Kc (pw_P L xs) pw_B (AT, pw_cs b t, s.heap.size) s s.heap := by
    refine ⟨fun c n f hc => ?_, fun k q hq => ?_⟩
    · replace hc : pw_cst L xs c = some (n, f) := hc
      cases c with
      | zero =>
        cases hc
        exact ⟨hbl, hbl, hX, fun h => absurd rfl h⟩
      | succ k =>
        unfold pw_cst at hc
        dsimp only at hc
        by_cases hk : k < pw_tab_l.length
        · rw [if_pos hk] at hc
          cases hc
          obtain ⟨a1, a2, a3, -⟩ := ht k hk
          exact ⟨a1, a1, a2, fun _ => a3⟩
        · rw [if_neg hk] at hc
          cases hc
    · replace hq : pw_S[k]? = some q := hq
      have hk : k < pw_S.length := (List.getElem?_eq_some_iff.mp hq).1
      obtain ⟨-, -, -, a4⟩ := ht k hk
      have e : pw_S.getD k ("", "", "") = q := by rw [List.getD_eq_getElem?_getD, hq]; rfl
      rw [e] at a4
      exact a4
  have hX0 : am_X (pw_P L xs) pw_B D (AT, pw_cs b t, s.heap.size) p room_1 s m #[Value.ref b] meth c 0 :=
    ⟨hx, hb, hml, hr, hlocks, hown, (fun h => absurd (show pw_ini 0 = true from h) (by decide)), htW, htN, hK, hKc, Nat.le_refl _, (show pw_rF 0 ≤ 15 by decide), (show pw_rL 0 ≤ 578 by decide)⟩
  have hl := lv_entry ([.ref b]) (n := 4) (Nat.le_of_ble_eq_true rfl)
  rw [lg_entry_eq]
  generalize (lg_sl ([.ref b]) ++ List.replicate (4 - (lg_sl ([.ref b])).length) Slot.unset).toArray = ls at hl ⊢
  have K := am_ev_sound (pw_G L xs) l D (AT, pw_cs b t, s.heap.size) f 0 0 (lv_args 0 [.retAddr 0]) [] ([], 0) (some (.int 1)) M hev (p := p) (e := e) (below := below) (Q := lw_Z below #[Value.ref b] s) (k0 := 0) (n0 := 0) hX0 hm1 hm2
    (fun H locs ls pc ins st hcd hrt hR hS => ?_) s.heap [] ls ⟨fun k q h => (by simp [am_ws] at h), rfl⟩ va_S.rf hl (Nat.le_refl _) (Nat.le_refl _)
  · exact K
  · have hins : ins = .ireturn ∧ st = [.int 1] := by
      unfold am_rt at hrt
      split at hrt <;> (repeat' (split at hrt)) <;> first | (cases hrt; done) | (cases hrt; exact ⟨rfl, rfl⟩)
    obtain ⟨rfl, rfl⟩ := hins
    obtain ⟨len, hdg, hlen⟩ := pw_G1 L xs 0 pc _ hcd
    refine va_forget (fun q hq => hS.2.2 q hq) ?_
    refine W.widen (k := 600000) (n := 7302250) hm1 hm2 ?_
    exact lw_ret (d0 := s.drawn) (Drawn.sameBut.refl s.drawn lw_cs) hx hb hr hlocks (am_lq hlen hdg rfl)
