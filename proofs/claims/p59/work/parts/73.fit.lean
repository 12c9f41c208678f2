/-! ===== a state that has a loop's shape ===== -/
theorem at_ffl_ok {ν : Nat → Int} {m : fl_M} {n t p i : Nat} {pl idx v : at_A} (ep : at_ev ν pl = p) (ei : at_ev ν idx = i) : ∀ fs : List at_F, (∀ f ∈ fs, at_FT ν m f ∧ at_FW n f) → at_ff fs t pl idx = some v → at_ev ν v = (m.1 p i).toInt ∧ at_wf n v := by
  intro fs
  induction fs with
  | nil => intro _ e; cases e
  | cons f r ih =>
    intro hf e
    unfold at_ff at e
    cases hb : Nat.beq f.1 t && (at_eq f.2.1 pl && at_eq f.2.2.1 idx) with
    | false => rw [hb] at e; exact ih (fun g hg => hf g (List.mem_cons_of_mem _ hg)) e
    | true =>
      rw [hb] at e
      cases e
      simp only [Bool.and_eq_true] at hb
      obtain ⟨-, b2, b3⟩ := hb
      obtain ⟨⟨p', i', e1, e2, e3, e4⟩, w1, w2, w3⟩ := hf f List.mem_cons_self
      rw [at_eq_ok b2, ep] at e1
      rw [at_eq_ok b3, ei] at e2
      have e1 : p = p' := by omega
      have e2 : i = i' := by omega
      subst e1 e2
      exact ⟨e4.symm, w3⟩
/-- the named words hold these numbers -/
def at_lz (ν : Nat → Int) (n : Nat) (m : fl_M) : List (Nat × at_A × at_A) → List Int → Prop
  | [], [] => True
  | q :: r, z :: s => (∃ p i : Nat, at_wf n q.2.1 ∧ at_wf n q.2.2 ∧ at_ev ν q.2.1 = p ∧ at_ev ν q.2.2 = i ∧ fk_K p = q.1 ∧ (m.1 p i).toInt = z) ∧ at_lz ν n m r s
  | _, _ => False
/-- how a loop's start is laid over its base -/
def at_AO (P2 : at_P) (wr2 : List at_W) (brk2 : List (Nat × at_A)) (A : at_Ac) : Prop :=
  ∃ P3, at_cons (at_hv A.2.1.2.2.1 P2 A.2.2.1).2 (at_bh A.2.1.2.2.2.2.1 (at_hv A.2.1.2.2.1 P2 A.2.2.1).1).2 (at_nF A.2.2.2.1) A.2.1.2.2.2.2.2.1 (at_bh A.2.1.2.2.2.2.1 (at_hv A.2.1.2.2.1 P2 A.2.2.1).1).1 = some P3 ∧
    at_tm (at_hv A.2.1.2.2.1 P2 A.2.2.1).2 (at_bh A.2.1.2.2.2.2.1 (at_hv A.2.1.2.2.1 P2 A.2.2.1).1).2 (at_nF A.2.2.2.1) A.2.1.2.2.2.2.2.2 = some A.2.2.2.2.2.2.2 ∧
    A.2.2.2.2.1 = (P3, (A.2.2.2.2.2.2.1.zip (at_bh A.2.1.2.2.2.2.1 (at_hv A.2.1.2.2.1 P2 A.2.2.1).1).2).map (fun q => (q.1.1, q.1.2.1, q.1.2.2, q.2)) ++ A.2.2.2.1, A.2.1.2.2.2.1 ++ wr2, brk2) ∧
    A.2.2.2.2.2.1 = (at_hv A.2.1.2.2.1 P2 A.2.2.1).2
def at_Ft (X : fl_M → Prop) (m0 : fl_M) (h0 : Nat) (P2 : at_P) (wr2 : List at_W) (brk2 : List (Nat × at_A)) (A : at_Ac) (ν : Nat → Int) (m : fl_M) (fl : fl_L) (zs : List Int) : Prop :=
  h0 ≤ m.2.2 ∧ at_KP ν P2 ∧ at_LR ν m.2.2 A.2.2.1 fl ∧ (∀ a, some a ∈ A.2.2.1 → at_wV P2.1.length a) ∧ (∀ f ∈ A.2.2.2.1, at_FT ν m f ∧ at_FW P2.1.length f) ∧ (∀ b ∈ brk2, at_wf P2.1.length b.2) ∧ at_RG m ∧ at_RL ν brk2 m ∧ X m ∧ at_MD m0 m (A.2.1.2.2.2.1 ++ wr2) ∧ (∀ q ∈ A.2.1.2.2.1, at_hz fl q) ∧ at_bz A.2.1.2.2.2.2.1 zs ∧ at_lz ν P2.1.length m A.2.2.2.2.2.2.1 zs ∧ ∀ t ∈ A.2.1.2.2.2.2.2.1, at_sm m fl zs t ≤ 0
theorem at_lz_facts {ν ν' : Nat → Int} {n k : Nat} {m : fl_M} (hag : at_ag n ν ν') (hk : n ≤ k) : ∀ (locs : List (Nat × at_A × at_A)) (zs : List Int) (bv : List at_A), at_lz ν n m locs zs → at_vz ν' k bv zs → ∀ f ∈ (locs.zip bv).map (fun q => ((q.1.1, q.1.2.1, q.1.2.2, q.2) : at_F)), at_FT ν' m f ∧ at_FW k f := by
  intro locs
  induction locs with
  | nil => intro zs bv _ _ f hf; simp at hf
  | cons q r ih =>
    intro zs bv hl hb f hf
    cases zs with
    | nil => cases hl
    | cons z s =>
      cases bv with
      | nil => cases hb
      | cons b bs =>
        obtain ⟨⟨p, i, w1, w2, e1, e2, e3, e4⟩, h2⟩ := hl
        obtain ⟨b1, b2, b3⟩ := hb
        rw [List.zip_cons_cons, List.map_cons] at hf
        rcases List.mem_cons.mp hf with rfl | hf
        · exact ⟨⟨p, i, by rw [at_ev_ag hag w1]; exact e1, by rw [at_ev_ag hag w2]; exact e2, e3, by rw [e4, b2]⟩, w1.mono hk, w2.mono hk, b1⟩
        · exact ih s bs h2 b3 f hf
theorem at_fit_ok {X : fl_M → Prop} {m0 : fl_M} {h0 : Nat} {P2 : at_P} {wr2 : List at_W} {brk2 : List (Nat × at_A)} {A : at_Ac} {ν : Nat → Int} {m : fl_M} {fl : fl_L} {zs : List Int} (hA : at_AO P2 wr2 brk2 A) (h : at_Ft X m0 h0 P2 wr2 brk2 A ν m fl zs) : ∃ ν', at_ag P2.1.length ν ν' ∧ P2.1.length ≤ A.2.2.2.2.1.1.1.length ∧ at_G X m0 m ν' A.2.2.2.2.1 A.2.2.2.2.2.1 [] fl [] ∧ at_wf A.2.2.2.2.1.1.1.length A.2.2.2.2.2.2.2 ∧ at_ev ν' A.2.2.2.2.2.2.2 = at_sm m fl zs A.2.1.2.2.2.2.2.2 := by
  obtain ⟨k0, k1, k2, k3, k4, k5, k6, k7, k8, k9, k10, k11, k12, k13⟩ := h
  obtain ⟨P3, a1, a2, a3, a4⟩ := hA
  obtain ⟨ν3, x3, l3, w3⟩ := at_hv_ok A.2.1.2.2.1 P2 A.2.2.1 ν k1 k2 k3 k10
  obtain ⟨ν4, x4, v4⟩ := at_bh_ok A.2.1.2.2.2.2.1 zs _ ν3 x3.2.2 k11
  have x34 := x3.trans x4
  have hn : ∀ a, at_nF A.2.2.2.1 = some a → at_wf (at_bh A.2.1.2.2.2.2.1 (at_hv A.2.1.2.2.1 P2 A.2.2.1).1).1.1.length a ∧ at_ev ν4 a = at_w m 2 := by
    intro a ea
    obtain ⟨q1, q2⟩ := at_ffl_ok (p := 280) (i := 2) (n := P2.1.length) (m := m) (ν := ν) (at_ev_c _ _) (at_ev_c _ _) A.2.2.2.1 k4 ea
    exact ⟨q2.mono x34.2.1, by rw [at_ev_ag x34.1 q2]; exact q1⟩
  have l4 := l3.ag w3 x4.1 (Nat.le_refl m.2.2)
  have w4 : ∀ a, some a ∈ (at_hv A.2.1.2.2.1 P2 A.2.2.1).2 → at_wV (at_bh A.2.1.2.2.2.2.1 (at_hv A.2.1.2.2.1 P2 A.2.2.1).1).1.1.length a := fun a ha => (w3 a ha).mono x4.2.1
  obtain ⟨x5, e5⟩ := at_cons_ok A.2.1.2.2.2.2.2.1 _ P3 x4.2.2 k13 l4 w4 v4 hn a1
  obtain ⟨t1, t2⟩ := at_tm_ok l4 w4 v4 hn a2
  have hlen : A.2.2.2.2.1.1.1.length = (at_bh A.2.1.2.2.2.2.1 (at_hv A.2.1.2.2.1 P2 A.2.2.1).1).1.1.length := by rw [a3]; exact e5
  refine ⟨ν4, x34.1, by rw [hlen]; exact x34.2.1, ?_, by rw [hlen]; exact t1, t2⟩
  rw [a4]
  unfold at_G
  rw [hlen]
  refine ⟨?_, l4, w4, True.intro, fun a ha => by cases ha⟩
  rw [a3]
  refine ⟨x5.2.2, ?_, ?_, k6, k7.ag x34.1 k5, k8, k9⟩
  · dsimp only
    rw [e5]
    intro f hf
    rcases List.mem_append.mp hf with hf | hf
    · exact at_lz_facts x34.1 x34.2.1 _ zs _ k12 v4 f hf
    · obtain ⟨⟨p, i, e1, e2, e3, e4⟩, q1, q2, q3⟩ := k4 f hf
      exact ⟨⟨p, i, by rw [at_ev_ag x34.1 q1]; exact e1, by rw [at_ev_ag x34.1 q2]; exact e2, e3, by rw [at_ev_ag x34.1 q3]; exact e4⟩, q1.mono x34.2.1, q2.mono x34.2.1, q3.mono x34.2.1⟩
  · dsimp only
    rw [e5]
    exact fun b hb => (k5 b hb).mono x34.2.1
/-! into a loop -/
theorem at_hc1_ok {ν : Nat → Int} {P : at_P} {h : Nat} {lv : at_L} {fl : fl_L} (hP : at_GP ν P) (hl : at_LR ν h lv fl) {q : Nat × Option (Bool × Int × Int)} (e : at_hc1 P lv q = true) : at_hz fl q := by
  obtain ⟨i, o⟩ := q
  unfold at_hc1 at e
  unfold at_hz
  cases o with
  | none => exact True.intro
  | some s =>
    obtain ⟨b, lo, hi⟩ := s
    dsimp only at e
    split at e
    · rename_i a ea
      obtain ⟨v, e1, x, rfl, ex⟩ := hl.2 i _ ea
      simp only [Bool.and_eq_true, Bool.not_eq_true'] at e
      obtain ⟨rfl, e⟩ := e
      obtain ⟨k1, k2⟩ := at_inR_ok hP e
      exact ⟨x, e1, by omega, by omega⟩
    · rename_i a ea
      obtain ⟨v, e1, x, rfl, ex⟩ := hl.2 i _ ea
      simp only [Bool.and_eq_true] at e
      obtain ⟨rfl, e⟩ := e
      obtain ⟨k1, k2⟩ := at_inR_ok hP e
      exact ⟨x, e1, by omega, by omega⟩
    · cases e
theorem at_er_ok {ν : Nat → Int} {h n : Nat} {fl : fl_L} : ∀ (hav : List (Nat × Option (Bool × Int × Int))) (lv : at_L), at_LR ν h lv fl → (∀ a, some a ∈ lv → at_wV n a) → at_LR ν h (at_er hav lv) fl ∧ ∀ a, some a ∈ at_er hav lv → at_wV n a := by
  intro hav
  induction hav with
  | nil => intro lv hl hw; exact ⟨hl, hw⟩
  | cons q r ih =>
    intro lv hl hw
    exact ih (lv.set q.1 none) (at_set_none hl) (fun a ha => by
      rcases at_set_mem ha with h | h
      · cases h
      · exact hw a h)
theorem at_ckc_ok {ν : Nat → Int} {P : at_P} {h : Nat} {m : fl_M} {lv : at_L} {fl : fl_L} {bv : List at_A} {zs : List Int} {nn : Option at_A} (hP : at_KP ν P) (hl : at_LR ν h lv fl) (hw : ∀ a, some a ∈ lv → at_wV P.1.length a) (hb : at_vz ν P.1.length bv zs) (hn : ∀ a, nn = some a → at_wf P.1.length a ∧ at_ev ν a = at_w m 2) {ts : List at_T} (e : at_ckc P lv bv nn ts = true) : ∀ t ∈ ts, at_sm m fl zs t ≤ 0 := by
  intro t ht
  have := List.all_eq_true.mp e t ht
  split at this
  · rename_i a ea
    obtain ⟨q1, q2⟩ := at_tm_ok hl hw hb hn ea
    rw [← q2]
    exact at_le_ok hP.1 this
  · cases this
