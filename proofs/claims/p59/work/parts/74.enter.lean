/-! ===== into a loop, back at its head ===== -/
section ATEN
variable {X : fl_M → Prop} {m0 m : fl_M} {ν ν' : Nat → Int} {S : at_S} {lv : at_L} {fl : fl_L}
theorem at_bl_ok : ∀ (bnd : List (Option Nat × at_T × Int × Int)) (S : at_S) (ν : Nat → Int) (S2 : at_S) (locs : List (Nat × at_A × at_A)) (vals : List at_A), at_GS X m0 m ν S → at_LR ν m.2.2 lv fl → (∀ a, some a ∈ lv → at_wV S.1.1.length a) → at_bl S lv bnd = some (S2, locs, vals) → ∃ ν' zs, at_ag S.1.1.length ν ν' ∧ S.1.1.length ≤ S2.1.1.length ∧ at_GS X m0 m ν' S2 ∧ S2.2.2 = S.2.2 ∧ at_bz bnd zs ∧ at_lz ν' S2.1.1.length m locs zs ∧ at_vz ν' S2.1.1.length vals zs := by
  intro bnd
  induction bnd with
  | nil =>
    intro S ν S2 locs vals h hl hw e
    cases e
    exact ⟨ν, [], at_ag.rfl, Nat.le_refl _, h, rfl, True.intro, True.intro, True.intro⟩
  | cons b r ih =>
    intro S ν S2 locs vals h hl hw e
    unfold at_bl at e
    split at e
    · rename_i ix q eix eq
      obtain ⟨hb, e⟩ := am_bif e
      obtain ⟨wi, vi⟩ := at_tm_ok (m := m) (zs := []) hl hw (show at_vz ν _ [] [] from True.intro) (fun a ha => by cases ha) eix
      have hi := at_nn_ok h.1.1 hb
      obtain ⟨i, ei⟩ : ∃ i : Nat, at_ev ν ix = i := ⟨(at_ev ν ix).toNat, by omega⟩
      have hq : ∃ p : Nat, at_wf S.1.1.length q.2 ∧ at_ev ν q.2 = p ∧ fk_K p = q.1 ∧ p < fl_N m.2.2 := by
        split at eq
        · cases eq
          exact ⟨280, at_wf_c, at_ev_c _ _, at_K280, at_280 _⟩
        · split at eq
          · rename_i q' eq'
            cases eq
            obtain ⟨v, e1, p, -, e2, e3, e4⟩ := hl.2 _ _ eq'
            exact ⟨p, hw _ (List.mem_of_getElem? eq'), e2, e3, e4⟩
          · cases eq
      obtain ⟨p, wq, ep, hk, hp⟩ := hq
      obtain ⟨ν1, ag1, le1, g1, w1, e1, same1⟩ := at_ld_ok h wq wi ep ei hk hp
      dsimp only at e
      obtain ⟨hr, e⟩ := am_bif e
      obtain ⟨r1, r2⟩ := at_inR_ok g1.1.1 hr
      split at e
      · rename_i z ez
        cases e
        obtain ⟨z1, z2, z3⟩ := z
        obtain ⟨ν2, zs, ag2, le2, g2, same2, bz2, lz2, vz2⟩ := ih _ ν1 z1 z2 z3 g1 (hl.ag hw ag1 (Nat.le_refl _)) (fun a ha => (hw a ha).mono le1) ez
        refine ⟨ν2, (m.1 p i).toInt :: zs, ag1.trans ag2 le1, Nat.le_trans le1 le2, g2, same2.trans same1, ⟨⟨by omega, by omega⟩, bz2⟩, ⟨⟨p, i, (wq.mono le1).mono le2, (wi.mono le1).mono le2, ?_, ?_, hk, rfl⟩, lz2⟩, ⟨w1.mono le2, ?_, vz2⟩⟩
        · dsimp only; rw [at_ev_ag ag2 (wq.mono le1), at_ev_ag ag1 wq]; exact ep
        · dsimp only; rw [at_ev_ag ag2 (wi.mono le1), at_ev_ag ag1 wi]; exact ei
        · rw [at_ev_ag ag2 w1]; exact e1
      · cases e
    · cases e
theorem at_enter_ok {j : at_J} {SJ : at_S} {lvJ : at_L} {A : at_Ac} (h : at_G X m0 m ν S lv [] fl []) (e : at_enter S lv j = some (SJ, lvJ, A)) : ∃ P2 wr2 brk2 ν2 zs, at_ag S.1.1.length ν ν2 ∧ S.1.1.length ≤ P2.1.length ∧ at_AO P2 wr2 brk2 A ∧ at_Ft X m0 m.2.2 P2 wr2 brk2 A ν2 m fl zs ∧ A.1 = j.1.2.1 ∧ SJ = A.2.2.2.2.1 ∧ lvJ = A.2.2.2.2.2.1 := by
  obtain ⟨ν1, ag1, le1, g1, w1, e1, same1⟩ := at_cs_ok h.1
  unfold at_enter at e
  have hl1 := h.2.1.ag h.2.2.1 ag1 (Nat.le_refl m.2.2)
  have hw1 : ∀ a, some a ∈ lv → at_wV (at_cs S).1.1.1.length a := fun a ha => (h.2.2.1 a ha).mono le1
  split at e
  · cases e
  · rename_i S2 locs vals ebl
    obtain ⟨ν2, zs, ag2, le2, g2, same2, bz2, lz2, vz2⟩ := at_bl_ok _ _ ν1 S2 locs vals g1 hl1 hw1 ebl
    obtain ⟨hb, e⟩ := am_bif e
    simp only [Bool.and_eq_true] at hb
    obtain ⟨hb1, hb2⟩ := hb
    have hl2 := hl1.ag hw1 ag2 (Nat.le_refl m.2.2)
    have hw2 : ∀ a, some a ∈ lv → at_wV S2.1.1.length a := fun a ha => (hw1 a ha).mono le2
    have hn : ∀ a, at_nF S2.2.1 = some a → at_wf S2.1.1.length a ∧ at_ev ν2 a = at_w m 2 := by
      intro a ea
      obtain ⟨q1, q2⟩ := at_ffl_ok (p := 280) (i := 2) (n := S2.1.1.length) (m := m) (ν := ν2) (at_ev_c _ _) (at_ev_c _ _) S2.2.1 g2.2.1 ea
      exact ⟨q2, q1⟩
    have hc := at_ckc_ok g2.1 hl2 hw2 vz2 hn hb2
    dsimp only at e
    split at e
    · rename_i P3 me e3 e4
      cases e
      obtain ⟨er1, er2⟩ := at_er_ok j.2.2.1 lv hl2 hw2
      refine ⟨S2.1, S2.2.2.1, S2.2.2.2, ν2, zs, ag1.trans ag2 le1, Nat.le_trans le1 le2, ⟨P3, e3, e4, rfl, rfl⟩, ?_, rfl, rfl, rfl⟩
      refine ⟨Nat.le_refl _, g2.1, er1, er2, fun f hf => g2.2.1 f (List.mem_filter.mp hf).1, g2.2.2.1, g2.2.2.2.1, g2.2.2.2.2.1, g2.2.2.2.2.2.1, ?_, fun q hq => at_hc1_ok g2.1.1 hl2 (List.all_eq_true.mp hb1 q hq), bz2, lz2, hc⟩
      refine ⟨g2.2.2.2.2.2.2.1, fun p i hne => ?_⟩
      obtain ⟨w, hw, hcv⟩ := g2.2.2.2.2.2.2.2 p i hne
      exact ⟨w, List.mem_append_right _ hw, hcv⟩
    · cases e
theorem at_cvW_ok {w w' : at_W} {t : Nat} {i : Int} (e : at_cvW w w' = true) (h : at_cv w t i) : at_cv w' t i := by
  obtain ⟨a1, a2, a3, a4⟩ := w
  obtain ⟨b1, b2, b3, b4⟩ := w'
  unfold at_cvW at e
  unfold at_cv at h ⊢
  simp only [Bool.and_eq_true] at e
  obtain ⟨e1, e2⟩ := e
  have e1 := Nat.eq_of_beq_eq_true e1
  dsimp only at e1 e2 h ⊢
  subst e1
  refine ⟨h.1, ?_⟩
  have h := h.2
  cases b2 with
  | true =>
    simp only [cond_true, Bool.and_eq_true, decide_eq_true_eq] at e2
    obtain ⟨rfl, e3, e4⟩ := e2
    rw [if_pos rfl] at h ⊢
    obtain ⟨o, o1, o2, o3, o4⟩ := h
    exact ⟨o, o1, o2, by omega, by omega⟩
  | false =>
    rw [if_neg (by decide)]
    cases a2 with
    | true =>
      simp only [cond_true, cond_false, Bool.and_eq_true, decide_eq_true_eq] at e2
      rw [if_pos rfl] at h
      obtain ⟨o, o1, o2, o3, o4⟩ := h
      omega
    | false =>
      simp only [cond_false, Bool.and_eq_true, decide_eq_true_eq] at e2
      rw [if_neg (by decide)] at h
      omega
theorem at_eqV_ok {a b : at_V} (e : at_eqV a b = true) : a = b := by
  unfold at_eqV at e
  split at e
  · rw [at_eq_ok e]
  · rw [at_eq_ok e]
  · rename_i p q
    simp only [Bool.and_eq_true] at e
    obtain ⟨p1, p2⟩ := p
    obtain ⟨q1, q2⟩ := q
    have e1 : p1 = q1 := Nat.eq_of_beq_eq_true e.1
    have e2 : p2 = q2 := at_eq_ok e.2
    rw [e1, e2]
  · rw [Nat.eq_of_beq_eq_true e]
  · rw [at_eq_ok e]
  · cases e
theorem at_un_ok : ∀ {l0 l : at_L}, at_un l0 l = true → l0.length = l.length ∧ ∀ (i : Nat) (a : at_V), l0[i]? = some (some a) → l[i]? = some (some a) := by
  intro l0
  induction l0 with
  | nil =>
    intro l e
    cases l with
    | nil => exact ⟨rfl, fun i a h => by simp at h⟩
    | cons b s => cases e
  | cons a r ih =>
    intro l e
    cases l with
    | nil => cases a <;> cases e
    | cons b s =>
      cases a with
      | none =>
        obtain ⟨h1, h2⟩ := ih (show at_un r s = true from e)
        refine ⟨by simp [h1], fun i c hc => ?_⟩
        cases i with
        | zero => cases hc
        | succ i => exact h2 i c hc
      | some a =>
        cases b with
        | none => cases e
        | some b =>
          have e : (at_eqV a b && at_un r s) = true := e
          simp only [Bool.and_eq_true] at e
          obtain ⟨h1, h2⟩ := ih e.2
          have hab := at_eqV_ok e.1
          subst hab
          refine ⟨by simp [h1], fun i c hc => ?_⟩
          cases i with
          | zero => exact hc
          | succ i => exact h2 i c hc
theorem at_eqF_ok {f g : at_F} (e : at_eqF f g = true) : f = g := by
  obtain ⟨f1, f2, f3, f4⟩ := f
  obtain ⟨g1, g2, g3, g4⟩ := g
  unfold at_eqF at e
  simp only [Bool.and_eq_true] at e
  obtain ⟨e1, e2, e3, e4⟩ := e
  have e1 := Nat.eq_of_beq_eq_true e1
  have e2 := at_eq_ok e2
  have e3 := at_eq_ok e3
  have e4 := at_eq_ok e4
  rw [e1, e2, e3, e4]
/-- the named words, where they are now -/
theorem at_bvs_ok {n k : Nat} {ν2 : Nat → Int} {m' : fl_M} (hag : at_ag n ν2 ν) : ∀ (locs : List (Nat × at_A × at_A)) (zs' : List Int) (fs : List at_F) (vals : List at_A), (∀ f ∈ fs, at_FT ν m f ∧ at_FW k f) → at_lz ν2 n m' locs zs' → at_bvs fs locs = some vals → ∃ zs, at_lz ν2 n m locs zs ∧ at_vz ν k vals zs ∧ zs.length = zs'.length := by
  intro locs
  induction locs with
  | nil =>
    intro zs' fs vals hf hl e
    cases e
    cases zs' with
    | nil => exact ⟨[], True.intro, True.intro, rfl⟩
    | cons z s => cases hl
  | cons q r ih =>
    intro zs' fs vals hf hl e
    cases zs' with
    | nil => cases hl
    | cons z s =>
      obtain ⟨⟨p, i, w1, w2, e1, e2, e3, e4⟩, h2⟩ := hl
      unfold at_bvs at e
      split at e
      · rename_i v vs ev evs
        cases e
        obtain ⟨zs, q1, q2, q3⟩ := ih s fs vs hf h2 evs
        obtain ⟨f1, f2⟩ := at_ffl_ok (p := p) (i := i) (n := k) (m := m) (ν := ν) (by rw [at_ev_ag hag w1]; exact e1) (by rw [at_ev_ag hag w2]; exact e2) fs hf ev
        exact ⟨(m.1 p i).toInt :: zs, ⟨⟨p, i, w1, w2, e1, e2, e3, rfl⟩, q1⟩, ⟨f2, f1, q2⟩, by simp [q3]⟩
      · cases e
theorem at_bz_ok {k : Nat} {P : at_P} (hP : at_GP ν P) : ∀ (vals : List at_A) (zs zs' : List Int) (bnd : List (Option Nat × at_T × Int × Int)), at_vz ν k vals zs → at_bz bnd zs' → zs.length = zs'.length → (vals.zip bnd).all (fun q => at_inR P q.1 q.2.2.2.1 q.2.2.2.2) = true → at_bz bnd zs := by
  intro vals
  induction vals with
  | nil =>
    intro zs zs' bnd hv hb hl _
    cases zs with
    | nil =>
      cases zs' with
      | nil => exact hb
      | cons z s => cases hl
    | cons z s => cases hv
  | cons v r ih =>
    intro zs zs' bnd hv hb hl e
    cases zs with
    | nil => cases hv
    | cons z s =>
      cases zs' with
      | nil => cases hl
      | cons z' s' =>
        cases bnd with
        | nil => cases hb
        | cons b bs =>
          rw [List.zip_cons_cons, List.all_cons, Bool.and_eq_true] at e
          obtain ⟨k1, k2⟩ := at_inR_ok hP e.1
          obtain ⟨v1, v2, v3⟩ := hv
          exact ⟨⟨by rw [← v2]; exact k1, by rw [← v2]; exact k2⟩, ih s s' bs v3 hb.2 (by simpa using hl) e.2⟩
theorem at_back_ok {h0 : Nat} {P2 : at_P} {wr2 : List at_W} {brk2 : List (Nat × at_A)} {A : at_Ac} {ν2 : Nat → Int} {m' : fl_M} {fl' : fl_L} {zs' : List Int} (hA : at_AO P2 wr2 brk2 A) (hF : at_Ft X m0 h0 P2 wr2 brk2 A ν2 m' fl' zs') (hag : at_ag P2.1.length ν2 ν) (h : at_G X m0 m ν S lv [] fl []) (hh : h0 ≤ m.2.2) (e : at_bck S lv A = true) : ∃ zs, at_Ft X m0 h0 P2 wr2 brk2 A ν2 m fl zs ∧ at_sm m fl zs A.2.1.2.2.2.2.2.2 ≤ at_ev ν A.2.2.2.2.2.2.2 - 1 ∧ 1 ≤ at_ev ν A.2.2.2.2.2.2.2 := by
  obtain ⟨k0, k1, k2, k3, k4, k5, k6, k7, k8, k9, k10, k11, k12, k13⟩ := hF
  obtain ⟨P3, a1, a2, a3, a4⟩ := hA
  unfold at_bck at e
  dsimp only at e
  split at e
  · cases e
  · rename_i vals ev
    simp only [Bool.and_eq_true] at e
    obtain ⟨e1, e2, e3, e4, e5, e6, e7, e8⟩ := e
    have hK := h.1.1
    obtain ⟨zs, q1, q2, q3⟩ := at_bvs_ok (m := m) hag _ zs' _ vals h.1.2.1 k12 ev
    have hn : ∀ a, at_nF S.2.1 = some a → at_wf S.1.1.length a ∧ at_ev ν a = at_w m 2 := by
      intro a ea
      obtain ⟨t1, t2⟩ := at_ffl_ok (p := 280) (i := 2) (n := S.1.1.length) (m := m) (ν := ν) (at_ev_c _ _) (at_ev_c _ _) S.2.1 h.1.2.1 ea
      exact ⟨t2, t1⟩
    have hc := at_ckc_ok hK h.2.1 h.2.2.1 q2 hn e4
    split at e8
    · rename_i me eme
      simp only [Bool.and_eq_true] at e8
      obtain ⟨t1, t2⟩ := at_tm_ok h.2.1 h.2.2.1 q2 hn eme
      have s1 := at_le_ok hK.1 e8.1
      have s2 := at_le_ok hK.1 e8.2
      rw [at_ev_sub, at_ev_c] at s1
      rw [at_ev_add, at_ev_sub, at_ev_c, t2] at s2
      refine ⟨zs, ⟨hh, k1, ?_, k3, ?_, k5, h.1.2.2.2.1, ?_, h.1.2.2.2.2.2.1, ?_, fun q hq => at_hc1_ok hK.1 h.2.1 (List.all_eq_true.mp e1 q hq), at_bz_ok hK.1 vals zs zs' _ q2 k11 q3 e3, q1, hc⟩, by omega, by omega⟩
      · obtain ⟨u1, u2⟩ := at_un_ok e2
        refine ⟨u1.trans h.2.1.1, fun i a ea => ?_⟩
        obtain ⟨v, v1, v2⟩ := h.2.1.2 i a (u2 i a ea)
        exact ⟨v, v1, at_RV.ag v2 (k3 a (List.mem_of_getElem? ea)) (fun x hx => (hag x hx).symm) (Nat.le_refl _)⟩
      · intro f hf
        obtain ⟨g, hg, eg⟩ := List.any_eq_true.mp (List.all_eq_true.mp e5 f hf)
        have eg := at_eqF_ok eg
        subst eg
        obtain ⟨p, i, c1, c2, c3, c4⟩ := (h.1.2.1 f hg).1
        obtain ⟨w1, w2, w3⟩ := (k4 f hf).2
        exact ⟨⟨p, i, by rw [← at_ev_ag hag w1]; exact c1, by rw [← at_ev_ag hag w2]; exact c2, c3, by rw [← at_ev_ag hag w3]; exact c4⟩, w1, w2, w3⟩
      · have hsub : ∀ b ∈ S.2.2.2, b ∈ brk2 := fun b hb => by
          have := at_hb_ok (List.all_eq_true.mp e7 b hb)
          rw [a3] at this
          exact this
        obtain ⟨r1, r2⟩ := h.1.2.2.2.2.1
        have e0 : ∀ w c, at_nb ν2 brk2 w c → at_nb ν S.2.2.2 w c := fun w c hnb b hb hw => by
          rw [at_ev_ag hag (k5 b (hsub b hb))]
          exact hnb b (hsub b hb) hw
        refine ⟨fun c hc hl => ?_, r2⟩
        obtain ⟨x1, x2, x3, x4⟩ := r1 c hc hl
        exact ⟨fun a => x1 (e0 _ _ a), fun a => x2 (e0 _ _ a), fun a => x3 (e0 _ _ a), fun a => x4 (e0 _ _ a)⟩
      · refine ⟨h.1.2.2.2.2.2.2.1, fun p i hne => ?_⟩
        obtain ⟨w, hw, hcv⟩ := h.1.2.2.2.2.2.2.2 p i hne
        obtain ⟨w', hw', ecv⟩ := List.any_eq_true.mp (List.all_eq_true.mp e6 w hw)
        rw [a3] at hw'
        exact ⟨w', hw', at_cvW_ok ecv hcv⟩
    · cases e8
end ATEN
