/-! ===== the looker's memory: words that are read ===== -/
abbrev at_F : Type := Nat × at_A × at_A × at_A
abbrev at_W : Type := Nat × Bool × Int × Int
abbrev at_S : Type := at_P × List at_F × List at_W × List (Nat × at_A)
def at_ff : List at_F → Nat → at_A → at_A → Option at_A
  | [], _, _, _ => none
  | f :: r, t, pl, idx => bif Nat.beq f.1 t && (at_eq f.2.1 pl && at_eq f.2.2.1 idx) then some f.2.2.2 else at_ff r t pl idx
def at_pf (S : at_S) (q : at_P × at_A) (t : Nat) (pl idx : at_A) : at_S × at_A := ((q.1, (t, pl, idx, q.2) :: S.2.1, S.2.2), q.2)
/-- how many cells the reference has -/
def at_cs (S : at_S) : at_S × at_A := match at_ff S.2.1 at_TA (at_c 280) (at_c 2) with
  | some v => (S, v)
  | none => at_pf S (at_fr S.1 0 16) at_TA (at_c 280) (at_c 2)
def at_bk (S : at_S) (w : Nat) (o : at_A) : Bool := S.2.2.2.any (fun b => Nat.beq b.1 w && !at_nz S.1 (at_sub b.2 o))
/-- a word of a cell of the reference: narrower, where the cell is told and whole -/
def at_ldT (S : at_S) (pl idx : at_A) (w : Nat) (lo hi : Int) (o : at_A) : at_S × at_A :=
  (fun s : at_S × at_A => at_pf s.1 (at_fr s.1.1 (bif at_le s.1.1 (at_add (at_sub o s.2) (at_c 1)) && !at_bk s.1 w o then (bif Nat.beq w 4 then 1 else 100) else lo) hi) at_TA pl idx) (at_cs S)
/-- the capacity beside a charge -/
def at_ldK (S : at_S) (pl idx o : at_A) : at_S × at_A := match at_ff S.2.1 at_TA pl (at_sub idx (at_c 1)) with
  | some c => (S, c)
  | none => at_ldT S pl (at_sub idx (at_c 1)) 1 0 9999 o
def at_ldC (S : at_S) (pl idx : at_A) (lo hi : Int) (o : at_A) : at_S × at_A :=
  (fun s : at_S × at_A => bif at_le s.1.1 (at_add (at_sub o s.2) (at_c 1)) && (!at_bk s.1 2 o && !at_bk s.1 1 o) then
      (fun c : at_S × at_A => (fun v : at_S × at_A => ((at_try v.1.1 (at_sub v.2 (at_mul 3600 c.2)), v.1.2), v.2)) (at_pf c.1 (at_fr c.1.1 0 35996400) at_TA pl idx)) (at_ldK s.1 pl idx o)
    else at_pf s.1 (at_fr s.1.1 lo hi) at_TA pl idx) (at_cs S)
def at_ldM (S : at_S) (pl idx : at_A) (lo hi : Int) : at_S × at_A :=
  (fun s : at_S × at_A => (fun v : at_S × at_A => ((at_try v.1.1 (at_sub v.2 s.2), v.1.2), v.2)) (at_pf s.1 (at_fr s.1.1 lo hi) at_TA pl idx)) (at_cs S)
def at_fd (sy : List (Int × Int)) (idx : at_A) : List at_R → Option (at_R × at_A)
  | [] => none
  | r :: rs => match at_rin sy idx r.2.1 r.2.2.1 r.2.2.2.1 r.2.2.2.2.1 with
    | some o => some (r, o)
    | none => at_fd sy idx rs
def at_ld (S : at_S) (t : Nat) (pl idx : at_A) : at_S × at_A := match at_ff S.2.1 t pl idx with
  | some v => (S, v)
  | none => match at_fd S.1.1 idx (at_rg t) with
    | none => at_pf S (at_fr S.1 (-2147483648) 2147483647) t pl idx
    | some (r, o) => match r.1 with
      | 0 => at_pf S (at_fr S.1 r.2.2.2.2.2.1 r.2.2.2.2.2.2) t pl idx
      | 2 => at_ldC S pl idx r.2.2.2.2.2.1 r.2.2.2.2.2.2 o
      | 5 => at_ldM S pl idx r.2.2.2.2.2.1 r.2.2.2.2.2.2
      | w => at_ldT S pl idx w r.2.2.2.2.2.1 r.2.2.2.2.2.2 o
def at_FT (ν : Nat → Int) (m : fl_M) (f : at_F) : Prop := ∃ p i : Nat, at_ev ν f.2.1 = p ∧ at_ev ν f.2.2.1 = i ∧ fk_K p = f.1 ∧ (m.1 p i).toInt = at_ev ν f.2.2.2
def at_FW (n : Nat) (f : at_F) : Prop := at_wf n f.2.1 ∧ at_wf n f.2.2.1 ∧ at_wf n f.2.2.2
/-- all words are in their ranges -/
def at_RG (m : fl_M) : Prop := ∀ p, p < fl_N m.2.2 → ∀ r ∈ at_rg (fk_K p), ∀ j : Nat, at_mem j r → r.2.2.2.2.2.1 ≤ (m.1 p j).toInt ∧ (m.1 p j).toInt ≤ r.2.2.2.2.2.2
def at_nb (ν : Nat → Int) (brk : List (Nat × at_A)) (w : Nat) (c : Int) : Prop := ∀ b ∈ brk, b.1 = w → at_ev ν b.2 ≠ c
def at_w (m : fl_M) (j : Nat) : Int := (m.1 280 j).toInt
/-- what holds of the cells that are told -/
def at_RL (ν : Nat → Int) (brk : List (Nat × at_A)) (m : fl_M) : Prop := (∀ c : Nat, c < 16 → (c : Int) < at_w m 2 → (at_nb ν brk 1 c → 100 ≤ at_w m (444 + 61 * c)) ∧ (at_nb ν brk 3 c → 100 ≤ at_w m (450 + 61 * c)) ∧ (at_nb ν brk 4 c → 1 ≤ at_w m (454 + 61 * c)) ∧ (at_nb ν brk 2 c → 0 ≤ at_w m (445 + 61 * c) ∧ at_w m (445 + 61 * c) ≤ 3600 * at_w m (444 + 61 * c))) ∧ ∀ k : Nat, k < 3 → at_w m (341 + 35 * k) ≤ at_w m 2
def at_cv (w : at_W) (t : Nat) (j : Int) : Prop := w.1 = t ∧ (if w.2.1 then ∃ o : Int, 0 ≤ o ∧ o ≤ 15 ∧ w.2.2.1 ≤ j - 444 - 61 * o ∧ j - 444 - 61 * o ≤ w.2.2.2 else w.2.2.1 ≤ j ∧ j ≤ w.2.2.2)
def at_MD (m0 m : fl_M) (wr : List at_W) : Prop := m0.2.2 ≤ m.2.2 ∧ ∀ p j : Nat, m.1 p j ≠ m0.1 p j → ∃ w ∈ wr, at_cv w (fk_K p) j
def at_GS (X : fl_M → Prop) (m0 m : fl_M) (ν : Nat → Int) (S : at_S) : Prop := at_KP ν S.1 ∧ (∀ f ∈ S.2.1, at_FT ν m f ∧ at_FW S.1.1.length f) ∧ (∀ b ∈ S.2.2.2, at_wf S.1.1.length b.2) ∧ at_RG m ∧ at_RL ν S.2.2.2 m ∧ X m ∧ at_MD m0 m S.2.2.1
/-- a word that was read stands for z -/
def at_SpS (X : fl_M → Prop) (m0 m : fl_M) (ν : Nat → Int) (S : at_S) (q : at_S × at_A) (z : Int) : Prop := ∃ ν', at_ag S.1.1.length ν ν' ∧ S.1.1.length ≤ q.1.1.1.length ∧ at_GS X m0 m ν' q.1 ∧ at_wf q.1.1.1.length q.2 ∧ at_ev ν' q.2 = z ∧ q.1.2.2 = S.2.2
section ATL
variable {X : fl_M → Prop} {m0 m : fl_M} {ν ν' : Nat → Int} {S : at_S}
theorem at_RL.ag {n : Nat} {brk : List (Nat × at_A)} (h : at_RL ν brk m) (hag : at_ag n ν ν') (hb : ∀ b ∈ brk, at_wf n b.2) : at_RL ν' brk m := by
  have e : ∀ w c, at_nb ν' brk w c → at_nb ν brk w c := fun w c h b hb' hw => by
    have := h b hb' hw
    rwa [at_ev_ag hag (hb b hb')] at this
  refine ⟨fun c hc hl => ?_, h.2⟩
  obtain ⟨h1, h2, h3, h4⟩ := h.1 c hc hl
  exact ⟨fun k => h1 (e _ _ k), fun k => h2 (e _ _ k), fun k => h3 (e _ _ k), fun k => h4 (e _ _ k)⟩
theorem at_GS.ext {P' : at_P} (h : at_GS X m0 m ν S) (hx : at_X ν S.1 ν' P') : at_GS X m0 m ν' (P', S.2) := by
  obtain ⟨h1, h2, h3, h4, h5, h6, h7⟩ := h
  refine ⟨hx.2.2, fun f hf => ?_, fun b hb => (h3 b hb).mono hx.2.1, h4, h5.ag hx.1 h3, h6, h7⟩
  obtain ⟨⟨p, i, e1, e2, e3, e4⟩, w1, w2, w3⟩ := h2 f hf
  exact ⟨⟨p, i, by rw [at_ev_ag hx.1 w1]; exact e1, by rw [at_ev_ag hx.1 w2]; exact e2, e3, by rw [at_ev_ag hx.1 w3]; exact e4⟩, w1.mono hx.2.1, w2.mono hx.2.1, w3.mono hx.2.1⟩
theorem at_GS.fact {f : at_F} (h : at_GS X m0 m ν S) (hf : at_FT ν m f) (hw : at_FW S.1.1.length f) : at_GS X m0 m ν (S.1, f :: S.2.1, S.2.2) := by
  obtain ⟨h1, h2, h3, h4, h5, h6, h7⟩ := h
  refine ⟨h1, fun g hg => ?_, h3, h4, h5, h6, h7⟩
  rcases List.mem_cons.mp hg with rfl | hg
  · exact ⟨hf, hw⟩
  · exact h2 g hg
theorem at_pf_ok (h : at_GS X m0 m ν S) {lo hi : Int} {t p i : Nat} {pl idx : at_A} (wp : at_wf S.1.1.length pl) (wi : at_wf S.1.1.length idx) (ep : at_ev ν pl = p) (ei : at_ev ν idx = i) (hk : fk_K p = t) (h1 : lo ≤ (m.1 p i).toInt) (h2 : (m.1 p i).toInt ≤ hi) : at_SpS X m0 m ν S (at_pf S (at_fr S.1 lo hi) t pl idx) (m.1 p i).toInt := by
  obtain ⟨ν', hx, hw, hv⟩ := at_fr_ok h.1 h1 h2
  have hg := h.ext hx
  refine ⟨ν', hx.1, hx.2.1, hg.fact ⟨p, i, ?_, ?_, hk, hv.symm⟩ ⟨wp.mono hx.2.1, wi.mono hx.2.1, hw⟩, hw, hv, rfl⟩
  · rw [at_ev_ag hx.1 wp]; exact ep
  · rw [at_ev_ag hx.1 wi]; exact ei
theorem at_ff_ok (h : at_GS X m0 m ν S) {t p i : Nat} {pl idx v : at_A} (ep : at_ev ν pl = p) (ei : at_ev ν idx = i) (e : at_ff S.2.1 t pl idx = some v) : at_ev ν v = (m.1 p i).toInt ∧ at_wf S.1.1.length v := by
  have key : ∀ fs : List at_F, (∀ f ∈ fs, at_FT ν m f ∧ at_FW S.1.1.length f) → at_ff fs t pl idx = some v → at_ev ν v = (m.1 p i).toInt ∧ at_wf S.1.1.length v := by
    intro fs
    induction fs with
    | nil => intro _ e; cases e
    | cons f r ih =>
      intro hf e
      unfold at_ff at e
      cases hb : Nat.beq f.1 t && (at_eq f.2.1 pl && at_eq f.2.2.1 idx) with
      | false => rw [hb] at e; exact ih (fun g hg => hf g (List.mem_cons_of_mem _ hg)) e
      | true =>
        rw [hb] at e
        cases e
        simp only [Bool.and_eq_true] at hb
        obtain ⟨-, b2, b3⟩ := hb
        obtain ⟨⟨p', i', e1, e2, e3, e4⟩, w1, w2, w3⟩ := hf f List.mem_cons_self
        rw [at_eq_ok b2, ep] at e1
        rw [at_eq_ok b3, ei] at e2
        have e1 : p = p' := by omega
        have e2 : i = i' := by omega
        subst e1 e2
        exact ⟨e4.symm, w3⟩
  exact key _ h.2.1 e
theorem at_SpS.self (h : at_GS X m0 m ν S) {v : at_A} {z : Int} (hw : at_wf S.1.1.length v) (e : at_ev ν v = z) : at_SpS X m0 m ν S (S, v) z := ⟨ν, at_ag.rfl, Nat.le_refl _, h, hw, e, rfl⟩
set_option maxRecDepth 100000 in
theorem at_K280 : fk_K 280 = at_TA := by decide +kernel
theorem at_280 (h : Nat) : 280 < fl_N h := by unfold fl_N; omega
set_option maxRecDepth 100000 in
theorem at_TA0 : (List.range 285).all (fun p => !Nat.beq (fk_K0.getD p 0) at_TA || Nat.beq p 280) = true := by decide +kernel
set_option maxRecDepth 100000 in
theorem at_TA1 : (List.range 90).all (fun p => !Nat.beq (fk_K1.getD p 0) at_TA) = true := by decide +kernel
theorem at_isA {p : Nat} (h : fk_K p = at_TA) : p = 280 := by
  by_cases hl : p < 285
  · have H := List.all_eq_true.mp at_TA0 p (List.mem_range.mpr hl)
    rw [fk_K_lo hl] at h
    rw [h] at H
    simpa [at_TA] using H
  · obtain ⟨d, r, hr, rfl⟩ : ∃ d r, r < 90 ∧ p = 285 + 90 * d + r := ⟨(p - 285) / 90, (p - 285) % 90, Nat.mod_lt _ (by decide), by omega⟩
    have H := List.all_eq_true.mp at_TA1 r (List.mem_range.mpr hr)
    rw [fk_K_hi hr] at h
    rw [h] at H
    simp [at_TA] at H
theorem at_cells (h : at_RG m) : 0 ≤ at_w m 2 ∧ at_w m 2 ≤ 16 := by
  have hm : ((0, 2, 0, 1, 1, 0, 16) : at_R) ∈ at_rg (fk_K 280) := by rw [at_K280]; decide +kernel
  exact h 280 (at_280 _) _ hm 2 ⟨0, 0, by decide, by decide, by decide, by decide, by decide⟩
theorem at_cs_ok (h : at_GS X m0 m ν S) : at_SpS X m0 m ν S (at_cs S) (at_w m 2) := by
  unfold at_cs
  split
  · rename_i v e
    obtain ⟨h1, h2⟩ := at_ff_ok h (p := 280) (i := 2) (at_ev_c _ _) (at_ev_c _ _) e
    exact at_SpS.self h h2 h1
  · obtain ⟨c1, c2⟩ := at_cells h.2.2.2.1
    exact at_pf_ok h at_wf_c at_wf_c (p := 280) (i := 2) (at_ev_c _ _) (at_ev_c _ _) at_K280 c1 c2
theorem at_bk_no (h : at_GS X m0 m ν S) {w : Nat} {o : at_A} (e : at_bk S w o = false) : at_nb ν S.2.2.2 w (at_ev ν o) := by
  intro b hb hw
  unfold at_bk at e
  have := List.any_eq_false.mp e b hb
  simp only [Bool.and_eq_true, not_and, Bool.not_eq_true, Bool.not_eq_true', Bool.not_eq_false] at this
  have hz := at_nz_ok h.1.1 (this (by rw [hw]; exact Nat.beq_refl _))
  rw [at_ev_sub] at hz
  omega
end ATL
