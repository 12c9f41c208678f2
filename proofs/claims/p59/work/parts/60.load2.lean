/-! ===== words that are read: what 59 says holds ===== -/
section ATM
variable {X : fl_M → Prop} {m0 m : fl_M} {ν ν' : Nat → Int} {S : at_S}
/-- the marked regions are where they are -/
def at_tb (w : Nat) : Nat := match w with
  | 1 => 444
  | 2 => 445
  | 3 => 450
  | _ => 454
theorem at_rgA : (at_rg at_TA).all (fun r => Nat.beq r.1 0 || (bif Nat.beq r.1 5 then decide (r.2.1 = 341 ∧ r.2.2.1 = 35 ∧ r.2.2.2.1 = 3 ∧ r.2.2.2.2.1 = 1) else (decide (r.2.1 = at_tb r.1 ∧ r.2.2.1 = 61 ∧ r.2.2.2.1 = 16 ∧ r.2.2.2.2.1 = 1) && decide (r.1 ≤ 4)))) = true := by decide +kernel
theorem at_rg0 : (List.range 84).all (fun t => Nat.beq t at_TA || (at_rg t).all (fun r => Nat.beq r.1 0)) = true := by decide +kernel
theorem at_rgT {t : Nat} {r : at_R} (hr : r ∈ at_rg t) (h : r.1 ≠ 0) : t = at_TA := by
  by_cases ht : t < 84
  · have H := List.all_eq_true.mp at_rg0 t (List.mem_range.mpr ht)
    rcases (Bool.or_eq_true _ _).mp H with H | H
    · exact Nat.eq_of_beq_eq_true H
    · have := List.all_eq_true.mp H r hr
      exact absurd (Nat.eq_of_beq_eq_true this) h
  · have e : at_rg t = [] := by
      exact at_rg_out (by omega)
    rw [e] at hr
    cases hr
theorem at_fd_ok {sy : List (Int × Int)} {idx : at_A} {l : List at_R} {r : at_R} {o : at_A} (h : at_fd sy idx l = some (r, o)) : r ∈ l ∧ at_rin sy idx r.2.1 r.2.2.1 r.2.2.2.1 r.2.2.2.2.1 = some o := by
  induction l with
  | nil => cases h
  | cons q l ih =>
    unfold at_fd at h
    split at h
    · rename_i u e
      cases h
      exact ⟨List.mem_cons_self, e⟩
    · obtain ⟨h1, h2⟩ := ih h
      exact ⟨List.mem_cons_of_mem _ h1, h2⟩
theorem at_rg_at (hR : at_RG m) {p i : Nat} {r : at_R} {o k : Int} (hp : p < fl_N m.2.2) (hr : r ∈ at_rg (fk_K p)) (h1 : 0 ≤ o) (h2 : o ≤ r.2.2.2.1 - 1) (h3 : 0 ≤ k) (h4 : k ≤ r.2.2.2.2.1 - 1) (e : (i : Int) = r.2.1 + r.2.2.1 * o + k) : r.2.2.2.2.2.1 ≤ (m.1 p i).toInt ∧ (m.1 p i).toInt ≤ r.2.2.2.2.2.2 := hR p hp r hr i ⟨o, k, h1, h2, h3, h4, e⟩
theorem at_ldT_ok (h : at_GS X m0 m ν S) {i : Nat} {pl idx o : at_A} {w : Nat} {lo hi : Int} (wp : at_wf S.1.1.length pl) (wi : at_wf S.1.1.length idx) (wo : at_wf S.1.1.length o) (ep : at_ev ν pl = 280) (ei : at_ev ν idx = i) (hw : w = 1 ∨ w = 3 ∨ w = 4) (o0 : 0 ≤ at_ev ν o) (o1 : at_ev ν o ≤ 15) (eo : (i : Int) = at_tb w + 61 * at_ev ν o) (h1 : lo ≤ at_w m i) (h2 : at_w m i ≤ hi) : at_SpS X m0 m ν S (at_ldT S pl idx w lo hi o) (at_w m i) := by
  obtain ⟨ν1, ag1, le1, g1, wf1, e1, same1⟩ := at_cs_ok h
  unfold at_ldT
  generalize at_cs S = s at le1 g1 wf1 e1 same1
  dsimp only
  have eo' : at_ev ν1 o = at_ev ν o := at_ev_ag ag1 wo
  have hlo : (bif at_le s.1.1 (at_add (at_sub o s.2) (at_c 1)) && !at_bk s.1 w o then (bif Nat.beq w 4 then 1 else 100) else lo) ≤ (m.1 280 i).toInt := by
    cases hb : at_le s.1.1 (at_add (at_sub o s.2) (at_c 1)) && !at_bk s.1 w o with
    | false => exact h1
    | true =>
      simp only [Bool.and_eq_true, Bool.not_eq_true'] at hb
      obtain ⟨b1, b2⟩ := hb
      have b1 := at_le_ok g1.1.1 b1
      rw [at_ev_add, at_ev_sub, at_ev_c, eo', e1] at b1
      have b2 := at_bk_no g1 b2
      rw [eo'] at b2
      obtain ⟨c, hc⟩ : ∃ c : Nat, at_ev ν o = c := ⟨(at_ev ν o).toNat, by omega⟩
      rw [hc] at b2 eo b1 o1
      obtain ⟨k1, k2, k3, k4⟩ := g1.2.2.2.2.1.1 c (by omega) (by omega)
      rcases hw with rfl | rfl | rfl
      · have : i = 444 + 61 * c := by have : (i : Int) = 444 + 61 * c := eo; omega
        rw [this]
        exact k1 b2
      · have : i = 450 + 61 * c := by have : (i : Int) = 450 + 61 * c := eo; omega
        rw [this]
        exact k2 b2
      · have : i = 454 + 61 * c := by have : (i : Int) = 454 + 61 * c := eo; omega
        rw [this]
        exact k3 b2
  obtain ⟨ν2, ag2, le2, g2, wf2, e2, same2⟩ := at_pf_ok g1 (p := 280) (i := i) (pl := pl) (idx := idx) (t := at_TA) (wp.mono le1) (wi.mono le1) (by rw [at_ev_ag ag1 wp]; exact ep) (by rw [at_ev_ag ag1 wi]; exact ei) at_K280 hlo h2
  exact ⟨ν2, ag1.trans ag2 le1, Nat.le_trans le1 le2, g2, wf2, e2, same2.trans same1⟩
theorem at_GS.tr {a : at_A} (h : at_GS X m0 m ν S) (ha : at_wf S.1.1.length a) (he : at_ev ν a ≤ 0) : at_GS X m0 m ν (at_try S.1 a, S.2) ∧ (at_try S.1 a).1.length = S.1.1.length := by
  obtain ⟨h1, h2⟩ := at_try_X h.1 ha he
  exact ⟨h.ext h1, h2⟩
theorem at_ldC_ok (h : at_GS X m0 m ν S) {i : Nat} {pl idx o : at_A} {lo hi : Int} (wp : at_wf S.1.1.length pl) (wi : at_wf S.1.1.length idx) (wo : at_wf S.1.1.length o) (ep : at_ev ν pl = 280) (ei : at_ev ν idx = i) (o0 : 0 ≤ at_ev ν o) (o1 : at_ev ν o ≤ 15) (eo : (i : Int) = 445 + 61 * at_ev ν o) (h1 : lo ≤ at_w m i) (h2 : at_w m i ≤ hi) : at_SpS X m0 m ν S (at_ldC S pl idx lo hi o) (at_w m i) := by
  obtain ⟨ν1, ag1, le1, g1, wf1, e1, same1⟩ := at_cs_ok h
  unfold at_ldC
  generalize at_cs S = s at le1 g1 wf1 e1 same1
  dsimp only
  have eo' : at_ev ν1 o = at_ev ν o := at_ev_ag ag1 wo
  have ep1 : at_ev ν1 pl = 280 := by rw [at_ev_ag ag1 wp]; exact ep
  have ei1 : at_ev ν1 idx = i := by rw [at_ev_ag ag1 wi]; exact ei
  cases hb : at_le s.1.1 (at_add (at_sub o s.2) (at_c 1)) && (!at_bk s.1 2 o && !at_bk s.1 1 o) with
  | false =>
    obtain ⟨ν2, ag2, le2, g2, wf2, e2, same2⟩ := at_pf_ok g1 (p := 280) (i := i) (pl := pl) (idx := idx) (t := at_TA) (lo := lo) (hi := hi) (wp.mono le1) (wi.mono le1) ep1 ei1 at_K280 h1 h2
    exact ⟨ν2, ag1.trans ag2 le1, Nat.le_trans le1 le2, g2, wf2, e2, same2.trans same1⟩
  | true =>
    simp only [Bool.and_eq_true, Bool.not_eq_true'] at hb
    obtain ⟨b1, b2, b2'⟩ := hb
    have b1 := at_le_ok g1.1.1 b1
    rw [at_ev_add, at_ev_sub, at_ev_c, eo', e1] at b1
    have b2 := at_bk_no g1 b2
    rw [eo'] at b2
    obtain ⟨c, hc⟩ : ∃ c : Nat, at_ev ν o = c := ⟨(at_ev ν o).toNat, by omega⟩
    rw [hc] at b2 eo b1 o1
    have hi0 : i = 445 + 61 * c := by omega
    obtain ⟨k1, k2, k3, k4⟩ := g1.2.2.2.2.1.1 c (by omega) (by omega)
    obtain ⟨k5, k6⟩ := k4 b2
    have hcap : 0 ≤ at_w m (444 + 61 * c) ∧ at_w m (444 + 61 * c) ≤ 9999 := by
      have hm : ((1, 444, 61, 16, 1, 0, 9999) : at_R) ∈ at_rg (fk_K 280) := by rw [at_K280]; decide +kernel
      refine at_rg_at g1.2.2.2.1 (at_280 _) hm (o := c) (k := 0) (by omega) (by show (c : Int) ≤ 16 - 1; omega) (by decide) (by decide) ?_
      show ((444 + 61 * c : Nat) : Int) = 444 + 61 * (c : Int) + 0
      omega
    have eic : at_ev ν1 (at_sub idx (at_c 1)) = ((444 + 61 * c : Nat) : Int) := by rw [at_ev_sub, at_ev_c, ei1]; omega
    have wic : at_wf s.1.1.1.length (at_sub idx (at_c 1)) := at_wf_sub (wi.mono le1) at_wf_c
    have key : at_SpS X m0 m ν1 s.1 (at_ldK s.1 pl idx o) (at_w m (444 + 61 * c)) := by
      unfold at_ldK
      split
      · rename_i v e
        obtain ⟨q1, q2⟩ := at_ff_ok g1 (p := 280) (i := 444 + 61 * c) ep1 eic e
        exact at_SpS.self g1 q2 q1
      · refine at_ldT_ok g1 (wp.mono le1) wic (wo.mono le1) ep1 eic (Or.inl rfl) (by omega) (by omega) ?_ hcap.1 hcap.2
        show ((444 + 61 * c : Nat) : Int) = 444 + 61 * _
        omega
    dsimp only [cond_true]
    generalize at_ldK s.1 pl idx o = cq at key
    obtain ⟨ν2, ag2, le2, g2, wf2, e2, same2⟩ := key
    subst hi0
    obtain ⟨ν3, ag3, le3, g3, wf3, e3, same3⟩ := at_pf_ok g2 (p := 280) (i := 445 + 61 * c) (pl := pl) (idx := idx) (t := at_TA) (lo := 0) (hi := 35996400) ((wp.mono le1).mono le2) ((wi.mono le1).mono le2) (by rw [at_ev_ag ag2 (wp.mono le1)]; exact ep1) (by rw [at_ev_ag ag2 (wi.mono le1)]; exact ei1) at_K280 k5 (by have : (m.1 280 (445 + 61 * c)).toInt ≤ 3600 * at_w m (444 + 61 * c) := k6; omega)
    generalize at_pf cq.1 (at_fr cq.1.1 0 35996400) at_TA pl idx = vq at le3 g3 wf3 e3 same3
    obtain ⟨g4, l4⟩ := g3.tr (a := at_sub vq.2 (at_mul 3600 cq.2)) (at_wf_sub wf3 (at_wf_mul (wf2.mono le3))) (by
      rw [at_ev_sub, at_ev_mul, e3, at_ev_ag ag3 wf2, e2]
      have : (m.1 280 (445 + 61 * c)).toInt ≤ 3600 * at_w m (444 + 61 * c) := k6
      omega)
    refine ⟨ν3, (ag1.trans ag2 le1).trans ag3 (Nat.le_trans le1 le2), ?_, g4, ?_, e3, ?_⟩
    · dsimp only; omega
    · dsimp only; rw [l4]; exact wf3
    · exact (same3.trans same2).trans same1
theorem at_ldM_ok (h : at_GS X m0 m ν S) {i : Nat} {pl idx : at_A} {lo hi : Int} (wp : at_wf S.1.1.length pl) (wi : at_wf S.1.1.length idx) (ep : at_ev ν pl = 280) (ei : at_ev ν idx = i) (hk : at_w m i ≤ at_w m 2) (h1 : lo ≤ at_w m i) (h2 : at_w m i ≤ hi) : at_SpS X m0 m ν S (at_ldM S pl idx lo hi) (at_w m i) := by
  obtain ⟨ν1, ag1, le1, g1, wf1, e1, same1⟩ := at_cs_ok h
  unfold at_ldM
  generalize at_cs S = s at le1 g1 wf1 e1 same1
  dsimp only
  obtain ⟨ν3, ag3, le3, g3, wf3, e3, same3⟩ := at_pf_ok g1 (p := 280) (i := i) (pl := pl) (idx := idx) (t := at_TA) (lo := lo) (hi := hi) (wp.mono le1) (wi.mono le1) (by rw [at_ev_ag ag1 wp]; exact ep) (by rw [at_ev_ag ag1 wi]; exact ei) at_K280 h1 h2
  generalize at_pf s.1 (at_fr s.1.1 lo hi) at_TA pl idx = vq at le3 g3 wf3 e3 same3
  obtain ⟨g4, l4⟩ := g3.tr (a := at_sub vq.2 s.2) (at_wf_sub wf3 (wf1.mono le3)) (by
    rw [at_ev_sub, e3, at_ev_ag ag3 wf1, e1]
    have : (m.1 280 i).toInt ≤ at_w m 2 := hk
    omega)
  refine ⟨ν3, ag1.trans ag3 le1, ?_, g4, ?_, e3, same3.trans same1⟩
  · dsimp only; omega
  · dsimp only; rw [l4]; exact wf3
theorem at_i32 (x : Int32) : (-2147483648 : Int) ≤ x.toInt ∧ x.toInt ≤ 2147483647 := by
  have h1 := Int32.le_toInt x
  have h2 := Int32.toInt_lt x
  omega
/-- A WORD IS READ -/
theorem at_ld_ok (h : at_GS X m0 m ν S) {t p i : Nat} {pl idx : at_A} (wp : at_wf S.1.1.length pl) (wi : at_wf S.1.1.length idx) (ep : at_ev ν pl = p) (ei : at_ev ν idx = i) (hk : fk_K p = t) (hp : p < fl_N m.2.2) : at_SpS X m0 m ν S (at_ld S t pl idx) (m.1 p i).toInt := by
  unfold at_ld
  split
  · rename_i v e
    obtain ⟨h1, h2⟩ := at_ff_ok h ep ei e
    exact at_SpS.self h h2 h1
  · split
    · obtain ⟨h1, h2⟩ := at_i32 (m.1 p i)
      exact at_pf_ok h wp wi ep ei hk h1 h2
    · rename_i r o e
      obtain ⟨hr, hin⟩ := at_fd_ok e
      obtain ⟨k, o0, o1, k0, k1, ek⟩ := at_rin_ok h.1.1.1 hin
      have wo := at_rin_wf wi hin
      have hrange := at_rg_at h.2.2.2.1 hp (hk ▸ hr) o0 o1 k0 k1 (by rw [← ei]; exact ek)
      obtain ⟨r1, r2⟩ := hrange
      by_cases hw : r.1 = 0
      · rw [hw]
        exact at_pf_ok h wp wi ep ei hk r1 r2
      · have hT := at_rgT hr hw
        subst hT
        have hp280 := at_isA hk
        subst hp280
        have H := List.all_eq_true.mp at_rgA r hr
        rcases (Bool.or_eq_true _ _).mp H with H | H
        · exact absurd (Nat.eq_of_beq_eq_true H) hw
        · cases h5 : Nat.beq r.1 5 with
          | true =>
            rw [h5] at H
            have H := of_decide_eq_true H
            have e5 := Nat.eq_of_beq_eq_true h5
            rw [e5]
            rw [H.1, H.2.1, ei] at ek
            rw [H.2.2.1] at o1
            rw [H.2.2.2] at k1
            refine at_ldM_ok h wp wi ep ei ?_ r1 r2
            obtain ⟨c, hc⟩ : ∃ c : Nat, at_ev ν o = c := ⟨(at_ev ν o).toNat, by omega⟩
            have := h.2.2.2.2.1.2 c (by omega)
            have e2 : i = 341 + 35 * c := by omega
            rw [e2]
            exact this
          | false =>
            rw [h5] at H
            simp only [cond_false, Bool.and_eq_true, decide_eq_true_eq] at H
            obtain ⟨⟨H1, H2, H3, H4⟩, H5⟩ := H
            rw [H1, H2, ei] at ek
            rw [H3] at o1
            rw [H4] at k1
            have hk0 : k = 0 := by omega
            subst hk0
            have hcase : r.1 = 1 ∨ r.1 = 2 ∨ r.1 = 3 ∨ r.1 = 4 := by omega
            rcases hcase with hw | hw | hw | hw
            · rw [hw] at ek ⊢
              exact at_ldT_ok h wp wi wo ep ei (Or.inl rfl) o0 (by omega) (by omega) r1 r2
            · rw [hw] at ek ⊢
              exact at_ldC_ok h wp wi wo ep ei o0 (by omega) (by have : (i : Int) = 445 + 61 * at_ev ν o + 0 := ek; omega) r1 r2
            · rw [hw] at ek ⊢
              exact at_ldT_ok h wp wi wo ep ei (Or.inr (Or.inl rfl)) o0 (by omega) (by omega) r1 r2
            · rw [hw] at ek ⊢
              exact at_ldT_ok h wp wi wo ep ei (Or.inr (Or.inr rfl)) o0 (by omega) (by omega) r1 r2
end ATM
