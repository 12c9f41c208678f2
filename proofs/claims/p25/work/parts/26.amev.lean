/-! ===== the pure machine's run is a run of the claim's machine ===== -/
section AME
variable {p : Program} {l : Launch} {e : Env} {R : Room} {s : State} {m : MethodId} {args : Array Value} {below : List Frame} {meth : Method} {c : Code} {Q : State → Prop}
variable {P : am_Pg} {B : am_Nm} {D : va_G} {Z : am_Z} {mi : Nat} {k0 n0 : Nat} {pc pc' len : Nat} {lv lv' : am_L} {st st' : List Value} {M M' : am_M}
/-- a world before a call, behind it -/
def am_Pc (P : am_Pg) (B : am_Nm) (D : va_G) (Z : am_Z) (as_ : List Value) (M : am_M) : Array Value → State → Prop :=
  va_Pc (as_.map (am_tr Z.2.1 Z.2.2)) (fun U => am_R D (am_kl B) Z M U.heap ∧ va_K D (am_kl B) (am_tys B Z) U ∧ (∀ w ∈ am_N B, va_Nw w U) ∧ am_Kc P B Z U U.heap)
def am_Qc (B : am_Nm) (D : va_G) (Z : am_Z) (v : Option Value) (M : am_M) : Array Value → State → Outcome → State → Prop :=
  fun _ st oc t => (oc = .returned (v.map (am_tr Z.2.1 Z.2.2)) ∧ am_R D (am_kl B) Z M t.heap) ∧ va_F (am_A Z) st t
theorem am_Nw_same {w : Cond} (hw : am_nw_ w = true) {u U : State} (h : u.vm = U.vm) (hZ : va_Nw w u) : va_Nw w U := by
  cases w <;> first | (cases hw; done) | exact va_Nw.same rfl h hZ | (rename_i ty; cases ty <;> first | (cases hw; done) | exact va_AO.moved (h ▸ Vm.Alike.refl _) hZ)
theorem am_Nw_warm {w : Cond} (hw : am_nw_ w = true) {s U : State} (hW : s.WarmedH U.vm) (hZ : va_Nw w s) : va_Nw w U := by
  cases w <;> first | (cases hw; done) | exact va_Nw.warmF hW hZ | exact va_Nw.warmM hW hZ | exact va_Nw.warmC hW hZ | (rename_i ty; cases ty <;> first | (cases hw; done) | exact va_AO.moved hW.alike hZ)
theorem am_Pc_blind (G : am_Gd P B) (as_ : List Value) (M : am_M) : FrameBlind (am_Pc P B D Z as_ M) := by
  intro a U g mk h
  obtain ⟨h1, h2, h3, h4, h5⟩ := h
  exact ⟨h1, h2, va_K.moved (u := U) (U := U.calling g mk a) (Vm.Alike.refl U.vm) h3, fun w hw => am_Nw_same (u := U) (U := U.calling g mk a) (G.2.2.2.2.2.2.2.2.2.2.2.2.1 w hw) rfl (h4 w hw), am_Kc.moved (u := U) (U := U.calling g mk a) (Vm.Alike.refl U.vm) h5⟩
theorem am_Pc_here (G : am_Gd P B) (hC : am_X P B D Z p R s m args meth c mi) {as_ : List Value} {H : Heap} {locs : List Loc} (hR : am_R D (am_kl B) Z M H) (hS : va_S (am_A Z) s.heap H locs) :
    ∀ U : State, U.heap = H → s.WarmedH U.vm → am_Pc P B D Z as_ M (as_.map (am_tr Z.2.1 Z.2.2)).toArray U := by
  obtain ⟨-, -, -, -, -, -, -, -, hNw, hK, hKc, -⟩ := hC
  intro U hU hW
  refine ⟨rfl, by rw [hU]; exact hR, va_K.moved hW.alike hK, fun w hw => am_Nw_warm (G.2.2.2.2.2.2.2.2.2.2.2.2.1 w hw) hW (hNw w hw), ?_⟩
  rw [hU]
  exact (hKc.moved hW.alike).kept hS.1 (fun a h1 h2 => hS.2.1 a h1 h2)
/-- a method's end -/
theorem am_end {ins : Instr} {v : Option Value} {H : Heap} {locs : List Loc} {cells slots : Nat} {ls : Array Slot} {Qc : Array Value → State → Outcome → State → Prop} {free : Addr → Prop} (G : am_Gd P B) (hx : p.tables.exec = Jvm.exec) (hb : c.code = am_cc B mi) (hr : meth.sig.returnType = am_ret P mi) (hlk : meth.locks = false)
    (hcd : am_code P mi pc = some ins) (h : am_rt P mi ins st = some v) (hq : ∀ t : State, t.heap = H → s.WarmedH t.vm → Qc args s (.returned (v.map (am_tr Z.2.1 Z.2.2))) t) (hf : ∀ q ∈ locs, free q.base) :
    W p l e R s m args below meth c H locs cells slots (MQ below Qc args s cells slots free) (F0 m pc ls (st.map (am_tr Z.2.1 Z.2.2))) := by
  obtain ⟨len, hdg, hlen⟩ := G.1 mi pc ins hcd
  unfold am_rt at h
  split at h
  · split at h
    · rename_i hn
      cases h
      exact W.vret hx hb (hr.trans hn) hq hf (am_lq hlen hdg rfl) hlk
    · cases h
  · split at h
    · rename_i hn
      cases h
      exact W.iret hx hb (hr.trans hn) hq hf (am_lq hlen hdg rfl) hlk
    · rename_i x _ hn
      by_cases hc : x = 0 ∨ x = 1
      · rw [if_pos hc] at h
        cases h
        exact W.zret hx hb (hr.trans hn) (by rcases hc with rfl | rfl <;> rfl) hq hf (am_lq hlen hdg rfl) hlk
      · rw [if_neg hc] at h; cases h
    · cases h
  · split at h
    · rename_i hn
      cases h
      exact W.lret hx hb (hr.trans hn) hq hf (am_lq hlen hdg rfl) hlk
    · cases h
  · split at h
    · rename_i hn
      cases h
      exact W.fret hx hb (hr.trans hn) hq hf (am_lq hlen hdg rfl) hlk
    · cases h
  · split at h
    · rename_i hn
      cases h
      exact W.dret hx hb (hr.trans hn) hq hf (am_lq hlen hdg rfl) hlk
    · cases h
  · split at h
    · rename_i hn
      cases h
      exact W.aret hx hb (hr.trans hn) (Or.inl ⟨_, rfl⟩) (Or.inr ⟨_, rfl⟩) hq hf (am_lq hlen hdg rfl) hlk
    · cases h
  · cases h
/-- how a run ends: with this answer, in this memory -/
def am_E (p : Program) (l : Launch) (e : Env) (R : Room) (s : State) (m : MethodId) (args : Array Value) (below : List Frame) (meth : Method) (c : Code) (Q : State → Prop) (P : am_Pg) (B : am_Nm) (D : va_G) (Z : am_Z) (mi k0 n0 : Nat) (v : Option Value) (M : am_M) : Prop :=
  ∀ (H : Heap) (locs : List Loc) (ls : Array Slot) (pc : Nat) (ins : Instr) (st : List Value), am_code P mi pc = some ins → am_rt P mi ins st = some v → am_R D (am_kl B) Z M H → va_S (am_A Z) s.heap H locs →
    W p l e R s m args below meth c H locs (M.1.length - k0) (M.2 - n0) Q (F0 m pc ls (st.map (am_tr Z.2.1 Z.2.2)))
/-- the sum of the words on a stack -/
theorem am_sl_len (Z : am_Z) (vs : List Value) : (lg_sl (vs.map (am_tr Z.2.1 Z.2.2))).length = am_sum vs := by
  induction vs with
  | nil => rfl
  | cons v r ih =>
    have e : lg_sl ((v :: r).map (am_tr Z.2.1 Z.2.2)) = (if (am_tr Z.2.1 Z.2.2 v).category = 2 then [.val (am_tr Z.2.1 Z.2.2 v), .second] else [.val (am_tr Z.2.1 Z.2.2 v)]) ++ lg_sl (r.map (am_tr Z.2.1 Z.2.2)) := rfl
    rw [e, List.length_append, ih]
    have e2 : am_sum (v :: r) = v.category + am_sum r := by simp [am_sum]
    rw [e2, am_cat]
    rcases lv_cat v with h | h
    · rw [h]; rfl
    · rw [h]; rfl
theorem am_sum_rev (vs : List Value) : am_sum vs.reverse = am_sum vs := by
  unfold am_sum
  rw [List.map_reverse, List.sum_reverse]
/-- a contract out of a body, by the method's own name -/
theorem am_ofW {y : MethodName} {ws ws' : List Cond} {rm : Room} {Pc : Array Value → State → Prop} {Qc : Array Value → State → Outcome → State → Prop} {mc ms : Nat} {free : Addr → Prop} {cc : ByteArray} {maxL : Nat} {ret : Option FieldType}
    (hy : plainFor y = true) (hw : ws = Cond.code y cc maxL ret :: ws')
    (body : ∀ p e s m args below meth c s₁, BodyLoose p l y (headSpec ws rm) cc maxL ret e s m args below meth c s₁ → c.maxLocals = maxL → Pc args s →
      W p l e (headSpec ws rm).room s m args below meth c s.heap [] 0 0 (MQ below Qc args s mc ms free) (entryFrame m args maxL)) : Met l y ws rm Pc Qc mc ms free := by
  refine MetFree.of_bodySF (code := cc) (maxLocals := maxL) (ret := ret) hy ?_ ?_
  · intro args s m h hn
    obtain ⟨meth, c, h1, h2, h3, h4, h5, h6, -, -⟩ := Cond.code_spec hn (atoms_spec (ws := ws) h _ (by rw [hw]; exact List.mem_cons_self))
    exact ⟨meth, c, h1, h2, h3, h4, h5, h6⟩
  · intro p e s m args below meth c s₁ Bd hml hP _
    have hh0 : s₁.heap = s.heap := by rw [Bd.state]; rfl
    obtain ⟨t, a1, o, b1, b2, b3⟩ := body p e s m args below meth c s₁ Bd hml hP s₁ hh0 (Stand.of_body Bd)
    exact ⟨t, o, a1, b1, b2, ⟨b3.1, b3.2⟩⟩
/-- the contract of a method, out of its run -/
theorem am_met (G : am_Gd P B) (l : Launch) (D : va_G) (Z : am_Z) {f mj kd i n : Nat} (hcal : am_cal P mi i = some (kd, mj, n)) {as_ : List Value} {v : Option Value}
    (ih : ∀ {p : Program} {e : Env} {R : Room} {s : State} {m : MethodId} {args : Array Value} {below : List Frame} {meth : Method} {c : Code} {Q : State → Prop}, am_X P B D Z p R s m args meth c mj → M'.1.length - M.1.length ≤ R.cells → M'.2 - M.2 ≤ R.slots → am_E p l e R s m args below meth c Q P B D Z mj M.1.length M.2 v M' → am_V p l e R s m args below meth c Q P B D Z mj M.1.length M.2 0 (lv_args 0 as_) [] M)
    (hfit : am_sum as_ ≤ am_mxl P mj) :
    Met l (am_y B mj) (Cond.code (am_y B mj) (am_cc B mj) (am_mxl P mj) (am_ret P mj) :: am_W B) ({ frames := am_rF B mj, cells := M'.1.length - M.1.length, slots := M'.2 - M.2, locals := am_rL B mj }) (am_Pc P B D Z as_ M) (am_Qc B D Z v M') (M'.1.length - M.1.length) (M'.2 - M.2) (am_A Z) := by
  obtain ⟨-, -, -, -, gcls, gpl, -⟩ := G.2.2.2.2.2.2.2.2.2.2.1 _ _ _ _ _ hcal
  refine am_ofW (cc := am_cc B mj) (maxL := am_mxl P mj) (ret := am_ret P mj) gpl rfl ?_
  intro p e s m args below meth c s₁ Bd hml hv
  obtain ⟨rfl, hR, hK, hN, hKc⟩ := hv
  have hts := atoms_spec (ws := Cond.code (am_y B mj) (am_cc B mj) (am_mxl P mj) (am_ret P mj) :: am_W B) Bd.pre
  have hX : am_X P B D Z p ({ frames := am_rF B mj, cells := M'.1.length - M.1.length, slots := M'.2 - M.2, locals := am_rL B mj } : Room) s m (as_.map (am_tr Z.2.1 Z.2.2)).toArray meth c mj :=
    ⟨Bd.exec, Bd.bytes, hml, Bd.returns, Bd.notSynchronized, gcls ▸ findClass_of_methodNamed Bd.named, fun h => (name_of_methodNamed Bd.named Bd.method).1.trans (G.2.2.2.2.2.2.2.2.2.2.2.2.2 mj h), fun w hw => hts w (List.mem_cons_of_mem _ hw), hN, hK, hKc, by rw [hR.2]; exact Nat.le_add_right _ _, Nat.le_refl _, Nat.le_refl _⟩
  have hl := lv_entry (as_.map (am_tr Z.2.1 Z.2.2)) (n := am_mxl P mj) (by rw [am_sl_len]; exact hfit)
  rw [lg_entry_eq]
  generalize (lg_sl (as_.map (am_tr Z.2.1 Z.2.2)) ++ List.replicate (am_mxl P mj - (lg_sl (as_.map (am_tr Z.2.1 Z.2.2))).length) Slot.unset).toArray = ls at hl ⊢
  rw [am_ltA] at hl
  have K := ih (p := p) (e := e) (below := below) (Q := MQ below (am_Qc B D Z v M') (as_.map (am_tr Z.2.1 Z.2.2)).toArray s (M'.1.length - M.1.length) (M'.2 - M.2) (am_A Z)) hX (Nat.le_refl _) (Nat.le_refl _)
    (fun H locs ls pc ins st hcd hrt hR' hS' => am_end G Bd.exec Bd.bytes Bd.returns Bd.notSynchronized hcd hrt (fun t ht hW => ⟨⟨rfl, by rw [ht]; exact hR'⟩, hS'.F ht⟩) hS'.2.2)
    s.heap [] ls hR va_S.rf hl (Nat.le_refl _) (Nat.le_refl _)
  rw [Nat.sub_self, Nat.sub_self] at K
  exact K
/-- behind a call -/
theorem am_back {H : Heap} {locs : List Loc} {ls : Array Slot} {st0 rest : List Value} {v : Option Value} {a : Array Value}
    (hr : va_Run p l e R s m args below meth c H locs (M.1.length - k0) (M.2 - n0) (M'.1.length - M.1.length) (M'.2 - M.2) (F0 m pc ls st0) (rest.map (am_tr Z.2.1 Z.2.2)) (am_Qc B D Z v M' a) (am_A Z)) (hS : va_S (am_A Z) s.heap H locs) (hk : k0 ≤ M.1.length) (hn : n0 ≤ M.2) (h1 : M.1.length ≤ M'.1.length) (h2 : M.2 ≤ M'.2)
    (hl : lv_has ls (am_mxl P mi) (am_lt Z lv)) (hV : am_V p l e R s m args below meth c Q P B D Z mi k0 n0 (pc + 3) lv (v.toList ++ rest) M') :
    W p l e R s m args below meth c H locs (M.1.length - k0) (M.2 - n0) Q (F0 m pc ls st0) := by
  intro T hT X
  obtain ⟨v', s₀, t, T', L, h0, X', hL, e1, e2, ⟨⟨hv, hR⟩, hz, hkp⟩, go⟩ := hr T hT X
  cases hv
  rw [h0] at hz hkp
  rw [← e1] at hz hkp hR
  have hS' : va_S (am_A Z) s.heap T'.heap (locs ++ L) := ⟨Nat.le_trans hS.1 hz, fun q q1 q2 => (hkp q (Nat.lt_of_lt_of_le q1 hS.1) q2).trans (hS.2.1 q q1 q2), fun q hq => (List.mem_append.mp hq).elim (hS.2.2 q) (hL q)⟩
  have K := hV T'.heap (locs ++ L) ls hR hS' hl (Nat.le_trans hk h1) (Nat.le_trans hn h2)
  rw [show M'.1.length - k0 = M.1.length - k0 + (M'.1.length - M.1.length) by omega, show M'.2 - n0 = M.2 - n0 + (M'.2 - M.2) by omega] at K
  rw [show (v.toList ++ rest).map (am_tr Z.2.1 Z.2.2) = (v.map (am_tr Z.2.1 Z.2.2)).toList ++ rest.map (am_tr Z.2.1 Z.2.2) by cases v <;> simp] at K
  obtain ⟨t2, a1, b1⟩ := K T' rfl X'
  exact ⟨t2, go t2 a1, b1⟩
set_option maxHeartbeats 4000000 in
/-- THE PURE MACHINE'S RUN IS A RUN OF THE CLAIM'S MACHINE -/
theorem am_ev_sound (G : am_Gd P B) (l : Launch) (D : va_G) (Z : am_Z) : ∀ (f mi pc : Nat) (lv : am_L) (st : List Value) (M : am_M) (v : Option Value) (M' : am_M), am_ev P f mi pc lv st M = some (v, M') →
    ∀ {p : Program} {e : Env} {R : Room} {s : State} {m : MethodId} {args : Array Value} {below : List Frame} {meth : Method} {c : Code} {Q : State → Prop} {k0 n0 : Nat}, am_X P B D Z p R s m args meth c mi → M'.1.length - k0 ≤ R.cells → M'.2 - n0 ≤ R.slots →
    am_E p l e R s m args below meth c Q P B D Z mi k0 n0 v M' → am_V p l e R s m args below meth c Q P B D Z mi k0 n0 pc lv st M := by
  intro f
  induction f with
  | zero => intro mi pc lv st M v M' h; cases h
  | succ f ih =>
    intro mi pc lv st M v M' h p e R s m args below meth c Q k0 n0 hX hrc hrs hE
    unfold am_ev at h
    split at h
    · cases h
    · rename_i ins hcd
      split at h
      · rename_i mj n hcl
        obtain ⟨hrcv, h⟩ := am_bif h
        split at h
        · rename_i v1 M1 h1
          have mo1 := am_mono _ _ _ _ _ _ _ _ h1
          have mo2 := am_mono _ _ _ _ _ _ _ _ h
          have hV2 := ih _ _ _ _ _ _ _ h (below := below) hX hrc hrs hE
          obtain ⟨len, hdg, hlen⟩ := G.1 mi pc ins hcd
          have hX' := hX
          obtain ⟨hx, hb, hml, hr, hlk, hown, hin0, hts, hNw, hK, hKc, hbs, hrF, hrL⟩ := hX'
          simp only [am_rc, Bool.and_eq_true, decide_eq_true_eq] at hrcv
          obtain ⟨hn, ⟨hs8, hfit⟩, hrcv⟩ := hrcv
          have hsum : am_sum (st.take n).reverse ≤ am_mxl P mj := by rw [am_sum_rev]; exact hfit
          have hlenA : (st.take n).reverse.length = n := by rw [List.length_reverse, List.length_take]; omega
          have hsp : ∀ as_ : List Value, as_ = (st.take n).reverse → st = as_.reverse ++ st.drop n := fun as_ he => by rw [he, List.reverse_reverse, List.take_append_drop]
          generalize hg : (st.take n).reverse = as_ at h1 hsum hlenA hrcv
          have hst := hsp as_ hg.symm
          generalize hrest : st.drop n = rest at hst h hV2 hs8
          have hfc : M.1.length - k0 + (M1.1.length - M.1.length) ≤ R.cells ∧ M.2 - n0 + (M1.2 - M.2) ≤ R.slots → True := fun _ => trivial
          intro H locs ls hR hS hl hk hn0
          have hfR : M.1.length - k0 + (M1.1.length - M.1.length) ≤ R.cells ∧ M.2 - n0 + (M1.2 - M.2) ≤ R.slots := by omega
          have hpre := am_Pc_here (as_ := as_) G hX hR hS
          have hSfix : CallFix p m c (am_cc B mi) (am_mxl P mi) s args (am_W B) (am_cn B (am_own P mi)) := ⟨hx, hb, hml, hown, hts⟩
          have hW8 : 2 * (F0 m pc ls (st.map (am_tr Z.2.1 Z.2.2))).monitorRoom + ((rest.map (am_tr Z.2.1 Z.2.2)).map fun v => v.category).sum ≤ 8 := by
            rw [am_sumT]
            show 2 * 0 + am_sum rest ≤ 8
            omega
          unfold am_cl at hcl
          split at hcl
          · rename_i i
            split at hcl
            · rename_i r hcal
              cases hcl
              have hM := am_met (mi := mi) G l D Z (f := f) hcal (as_ := as_) (v := v1) (M := M) (M' := M1) (fun hXj a b hEj => ih _ _ _ _ _ _ _ h1 hXj a b hEj) hsum
              obtain ⟨g1, g2, gc, gi, gcls, gpl, gd, gl, gs, -⟩ := G.2.2.2.2.2.2.2.2.2.2.1 _ _ _ _ _ hcal
              have hinit : (Cond.initialized (am_y B mj).cls).before args s = true := hts _ gi
              have hGd : GoodIn (am_W B) (Cond.code (am_y B mj) (am_cc B mj) (am_mxl P mj) (am_ret P mj) :: am_W B) := fun w hw => by
                rcases List.mem_cons.mp hw with rfl | hw
                · exact ⟨gc, good_of_word (G.2.2.2.2.2.2.2.2.2.2.2.1 _ gc)⟩
                · exact ⟨hw, good_of_word (G.2.2.2.2.2.2.2.2.2.2.2.1 _ hw)⟩
              have hRm : am_rF B mj + 1 ≤ R.frames ∧ 8 + (am_mxl P mj + 11) + am_rL B mj ≤ R.locals := by omega
              have hstk : (F0 m pc ls (st.map (am_tr Z.2.1 Z.2.2))).stack = (as_.map (am_tr Z.2.1 Z.2.2)).reverse ++ rest.map (am_tr Z.2.1 Z.2.2) := by
                show st.map _ = _
                rw [hst, List.map_append, List.map_reverse]
              have gd' : (am_y B mj).cls ≠ "java/lang/invoke/MethodHandle" ∧ (am_y B mj).cls ≠ "java/lang/invoke/VarHandle" ∧ (parseMethodDescriptor (am_y B mj).desc).map (fun d => d.parameters.length) = some n := gd
              rcases gl with hw | ⟨host, hw⟩
              · exact am_back (va_runS hSfix hM ⟨callB_of n hts hGd rfl rfl rfl hinit (hts _ hw) gd' hRm, hts _ (gs rfl)⟩ ⟨am_Pc_blind G as_ M, hpre⟩ rfl (by rw [List.length_map]; exact hlenA) hl.1 hstk hW8 (am_lq hlen hdg rfl) hfR) hS hk hn0 mo1.1 mo1.2 hl hV2
              · exact am_back (va_runSN hSfix hM ⟨va_cnB n hts hGd rfl rfl rfl (hNw _ hw) hinit gd' hRm, hts _ (gs rfl), trivial⟩ ⟨am_Pc_blind G as_ M, hpre⟩ rfl (by rw [List.length_map]; exact hlenA) hl.1 hstk hW8 (am_lq hlen hdg rfl) hfR) hS hk hn0 mo1.1 mo1.2 hl hV2
            · cases hcl
          · rename_i i
            split at hcl
            · rename_i r hcal
              cases hcl
              have hM := am_met (mi := mi) G l D Z (f := f) hcal (as_ := as_) (v := v1) (M := M) (M' := M1) (fun hXj a b hEj => ih _ _ _ _ _ _ _ h1 hXj a b hEj) hsum
              obtain ⟨g1, g2, gc, gi, gcls, gpl, gd, gl, -, gs, -⟩ := G.2.2.2.2.2.2.2.2.2.2.1 _ _ _ _ _ hcal
              obtain ⟨gn, gs1, gs2, q, gq⟩ := gs rfl
              have hinit : (Cond.initialized (am_y B mj).cls).before args s = true := hts _ gi
              have hGd : GoodIn (am_W B) (Cond.code (am_y B mj) (am_cc B mj) (am_mxl P mj) (am_ret P mj) :: am_W B) := fun w hw => by
                rcases List.mem_cons.mp hw with rfl | hw
                · exact ⟨gc, good_of_word (G.2.2.2.2.2.2.2.2.2.2.2.1 _ gc)⟩
                · exact ⟨hw, good_of_word (G.2.2.2.2.2.2.2.2.2.2.2.1 _ hw)⟩
              have hRm : am_rF B mj + 1 ≤ R.frames ∧ 8 + (am_mxl P mj + 11) + am_rL B mj ≤ R.locals := by omega
              replace hrcv : am_rv P mj as_ M = true := hrcv
              unfold am_rv at hrcv
              split at hrcv
              · rename_i a as0
                split at hrcv
                · rename_i cj fs ho
                  have hcj : cj = am_own P mj := of_decide_eq_true hrcv
                  subst hcj
                  have hstk : (F0 m pc ls (st.map (am_tr Z.2.1 Z.2.2))).stack = (as0.map (am_tr Z.2.1 Z.2.2)).reverse ++ .ref (Z.2.2 + a) :: rest.map (am_tr Z.2.1 Z.2.2) := by
                    show st.map _ = _
                    rw [hst, List.map_append, List.map_reverse, List.map_cons, List.reverse_cons, List.append_assoc]
                    rfl
                  have gd' : (am_y B mj).cls ≠ "java/lang/invoke/MethodHandle" ∧ (am_y B mj).cls ≠ "java/lang/invoke/VarHandle" ∧ (parseMethodDescriptor (am_y B mj).desc).map (fun d => d.parameters.length) = some (n - 1) := gd
                  have hla : (as0.map (am_tr Z.2.1 Z.2.2)).length = n - 1 := by rw [List.length_map]; rw [List.length_cons] at hlenA; omega
                  have hrcvr := va_recv hK hR.1 gq (am_ws_get (Z := Z) ho)
                  have hcC : q.1 = (am_y B mj).cls := by rw [gcls]; exact (G.2.1 _ _ gq).1.symm
                  rw [hcC] at hrcvr
                  rcases gl with hw | ⟨host, hw⟩
                  · exact am_back (va_runV hSfix hM ⟨callB_of (n - 1) hts hGd rfl rfl rfl hinit (hts _ hw) gd' hRm, hts _ gs1, hts _ gs2⟩ ⟨am_Pc_blind G _ M, hrcvr, hpre⟩ rfl hla hl.1 hstk hW8 (am_lq hlen hdg rfl) hfR) hS hk hn0 mo1.1 mo1.2 hl hV2
                  · exact am_back (va_runVN hSfix hM ⟨va_cnB (n - 1) hts hGd rfl rfl rfl (hNw _ hw) hinit gd' hRm, hts _ gs1, hts _ gs2⟩ ⟨am_Pc_blind G _ M, hrcvr, hpre⟩ rfl hla hl.1 hstk hW8 (am_lq hlen hdg rfl) hfR) hS hk hn0 mo1.1 mo1.2 hl hV2
                · cases hrcv
              · cases hrcv
            · cases hcl
          · rename_i i
            split at hcl
            · rename_i r hcal
              cases hcl
              have hM := am_met (mi := mi) G l D Z (f := f) hcal (as_ := as_) (v := v1) (M := M) (M' := M1) (fun hXj a b hEj => ih _ _ _ _ _ _ _ h1 hXj a b hEj) hsum
              obtain ⟨g1, g2, gc, gi, gcls, gpl, gd, gl, -, -, gs⟩ := G.2.2.2.2.2.2.2.2.2.2.1 _ _ _ _ _ hcal
              obtain ⟨gn, gs1, gs2, gs3⟩ := gs rfl
              have hinit : (Cond.initialized (am_y B mj).cls).before args s = true := hts _ gi
              have hGd : GoodIn (am_W B) (Cond.code (am_y B mj) (am_cc B mj) (am_mxl P mj) (am_ret P mj) :: am_W B) := fun w hw => by
                rcases List.mem_cons.mp hw with rfl | hw
                · exact ⟨gc, good_of_word (G.2.2.2.2.2.2.2.2.2.2.2.1 _ gc)⟩
                · exact ⟨hw, good_of_word (G.2.2.2.2.2.2.2.2.2.2.2.1 _ hw)⟩
              have hRm : am_rF B mj + 1 ≤ R.frames ∧ 8 + (am_mxl P mj + 11) + am_rL B mj ≤ R.locals := by omega
              rw [gs3] at hM hGd
              replace hrcv : am_rs as_ = true := hrcv
              unfold am_rs at hrcv
              split at hrcv
              · rename_i a as0
                have hstk : (F0 m pc ls (st.map (am_tr Z.2.1 Z.2.2))).stack = (as0.map (am_tr Z.2.1 Z.2.2)).reverse ++ .ref (Z.2.2 + a) :: rest.map (am_tr Z.2.1 Z.2.2) := by
                  show st.map _ = _
                  rw [hst, List.map_append, List.map_reverse, List.map_cons, List.reverse_cons, List.append_assoc]
                  rfl
                have gd' : (am_y B mj).cls ≠ "java/lang/invoke/MethodHandle" ∧ (am_y B mj).cls ≠ "java/lang/invoke/VarHandle" ∧ (parseMethodDescriptor (am_y B mj).desc).map (fun d => d.parameters.length) = some (n - 1) := gd
                have hla : (as0.map (am_tr Z.2.1 Z.2.2)).length = n - 1 := by rw [List.length_map]; rw [List.length_cons] at hlenA; omega
                rcases gl with hw | ⟨host, hw⟩
                · exact am_back (va_runI hSfix hM ⟨callB_of (n - 1) hts hGd rfl rfl rfl hinit (hts _ hw) gd' hRm, gs1, hts _ gs2⟩ ⟨am_Pc_blind G _ M, hpre⟩ rfl hla hl.1 hstk hW8 (am_lq hlen hdg rfl) hfR) hS hk hn0 mo1.1 mo1.2 hl hV2
                · exact am_back (va_runIN hSfix hM ⟨va_cnB (n - 1) hts hGd rfl rfl rfl (hNw _ hw) hinit gd' hRm, gs1, hts _ gs2⟩ ⟨am_Pc_blind G _ M, hpre⟩ rfl hla hl.1 hstk hW8 (am_lq hlen hdg rfl) hfR) hS hk hn0 mo1.1 mo1.2 hl hV2
              · cases hrcv
            · cases hcl
          · cases hcl
        · cases h
      · split at h
        · rename_i v1 hrt
          cases h
          intro H locs ls hR hS hl hk hn
          exact hE H locs ls pc ins st hcd hrt hR hS
        · split at h
          · rename_i pc1 lv1 st1 M1 h1
            have mo2 := am_mono _ _ _ _ _ _ _ _ h
            exact am_step G hcd hX h1 (by omega) (by omega) (ih _ _ _ _ _ _ _ h hX hrc hrs hE)
          · cases h
end AME
