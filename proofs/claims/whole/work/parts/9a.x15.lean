/-! ===== the class: put, join, cut, flat ===== -/
/-- a tree over a store lies in a larger one, with new cells -/
def CN (T T' : sT) (t : tT) (k : Nat) (F : List Nat) : Prop := (∀ c v, T c = some v → T' c = some v) ∧ tw T 12 t ∧ rT T' t k F ∧ F.Nodup ∧ ∀ z ∈ F, T z = none
section
variable {σ : xS} {T : sT} {sl : List Nat} {im : Nat → Option (List Nat)} {en nu : List Nat} {ev : Nat} {dr : List Int32} {sm dp lo tn st : Nat} {sp : List Nat}
theorem ZF_hi {ko : List Nat} {σ' : xS} (h : XF ko [] [] σ σ') (hk : ∀ k ∈ ko, 24 ≤ k) : ZF [] [] [] σ σ' := ⟨fun k o a _ c => h.1 k o (fun z => by have := hk k z; omega) c, fun k o _ _ c => h.2.1 k o (by simp) c, fun k o _ _ c => h.2.2.1 k o (by simp) c, h.2.2.2⟩
theorem XO_z0 {σ' : xS} (h : XO σ sl im en nu ev dr st) (hz : ZF [] [] [] σ σ') : XO σ' sl im en nu ev dr st := by
  obtain ⟨P, hP⟩ := h.2.2.2.2.2.2.1
  obtain ⟨L, hL⟩ := h.2.2.2.2.2.2.2.2.1
  obtain ⟨M, hM⟩ := h.2.2.2.2.2.2.2.2.2.1
  exact XO_s h hz (by simp) (by simp) (by simp) ⟨P, PCS_z hP hz (by omega) (by simp) (by simp)⟩ ⟨L, TXT_z hL hz (by omega) (by simp) (by simp)⟩ ⟨M, TXT_z hM hz (by omega) (by simp) (by simp)⟩
theorem XS_ext (h : XS σ T sl im en nu ev dr sm dp lo tn st sp) {σ' : xS} {T' : sT} {sp' : List Nat} {tn' : Nat} (hx : ∀ c v, T c = some v → T' c = some v) (hW : WS σ' T' sm dp lo tn' st sp') (hO : XO σ' sl im en nu ev dr st) : XS σ' T' sl im en nu ev dr sm dp lo tn' st sp' := ⟨hW, hO, fun r hr => (ext_wf hx 12 r (h.2.2.1 r hr)).1, h.2.2.2⟩
theorem p_put' (h : XS σ T sl im en nu ev dr sm dp lo tn st sp) (s : Int32) {ret : Option mV → xS → Prop} (hret : ∀ (r : Int32) (σ' : xS), ((ix sl s = none ∧ r = Int32.ofInt (-1) ∧ XS σ' T sl im en nu ev dr sm dp lo tn st sp) ∨ (∃ j, j < 8 ∧ s = nI j ∧ r = nI dr.length ∧ ∃ T' k F, CN T T' (tl (.inr (.inl dr))) k F ∧ XS σ' T' (sl.set j k) im en nu ev [] sm dp lo tn st sp)) → ret (some (.inl r)) σ') : P_X6_put [.inr (some 0), .inl s] σ 1100 13000 ret := by
  obtain ⟨⟨fi, fr, a1, a2, a3, a4, a5, -⟩, -, -, -, hd, -⟩ := id h.2.1
  obtain ⟨l40, hpos⟩ := h.2.2.2.1
  refine e_X6_put s 0 σ 1100 13000 _ _ a1 rfl ?_
  simp only [r_X6_put_0, r_X6_put_1]
  refine ⟨_, p_isSlot σ s, ?_⟩
  rintro r s' ⟨hs, hr⟩
  subst hs
  subst hr
  rcases ix_8 (XS_sl8 h) s with ⟨h1, h2⟩ | ⟨j, c, rfl, hj, hx, h1, h2⟩
  · rw [if_neg h2]
    simp only [r_X6_put_4, r_X6_put_7, r_X6_put_8]
    exact ⟨fun z => absurd trivial z, fun _ => hret _ _ (Or.inl ⟨h1, rfl, h⟩)⟩
  rw [if_pos h2]
  simp only [r_X6_put_4, r_X6_put_9, r_X6_put_10, r_X6_put_13, xo a1, a5, true_and]
  refine ⟨fun _ => ?_, fun z => absurd (by decide) z⟩
  have hok : okt dr := ⟨by omega, hpos⟩
  refine ⟨2, 9 + dr.length, _, by omega, by omega, q_leaf hd (by omega), ?_⟩
  intro r s2 hp
  obtain ⟨k, rfl, hTk, hW2, f2⟩ := leaf_in h.1 hok hp
  have hx2 := ext_up hTk (.inl dr)
  have hS2 := XS_ext h hx2 hW2 (XO_z0 h.2.1 (ZF_hi f2 (by simp)))
  obtain ⟨⟨zi, zr, b1, b2, b3, b4, b5, -⟩, -, -, -, hd2, -⟩ := id hS2.2.1
  simp only [r_X6_put_16, r_X6_put_17, r_X6_put_18, r_X6_put_21, xo b1, b5, true_and]
  refine ⟨_, q_clear hd2, ?_⟩
  rintro s3 ⟨f3, t3⟩
  have hS3 := XS_dr hS2 f3 (by simp) t3 ⟨by simp, fun x hx => by simp at hx⟩
  have hkk : va_up T k (some (.inl dr)) k = some (.inl dr) := va_up_self _ _ _
  have hwk : wf (va_up T k (some (.inl dr))) 12 k := (wf_leaf hkk).mpr hok
  simp only [r_X6_put_24, r_X6_put_25, r_X6_put_26, r_X6_put_27]
  refine ⟨_, q_hold hS3 hj hwk, ?_⟩
  rintro r s4 ⟨rfl, hS4⟩
  rw [r_X6_put_30, tx_leaf hkk]
  refine hret _ _ (Or.inr ⟨j, hj, rfl, rfl, _, k, [k], ⟨hx2, hok, ⟨hkk, rfl⟩, by simp, fun z hz => by simp at hz; rw [hz]; exact hTk⟩, hS4⟩)
theorem q_beginTurn (h : XS σ T sl im en nu ev dr sm dp lo tn st sp) : P_X5_beginTurn [.inr (some 11)] σ 0 0 (mN (fun σ' => XS σ' T sl im en nu ev dr sm dp lo (tn + 1) st sp ∧ MO σ' T (tn + 1))) := by
  obtain ⟨hC, hT, ⟨fi, fr, w1, w2, w3, w4, w5, w6⟩, ⟨g, r1, r2⟩, ⟨P, hP⟩, ⟨L, hL⟩, hM, hnd, hsp⟩ := id h.1
  refine e_X5_beginTurn 11 σ 0 0 _ _ w1 rfl ?_
  simp only [r_X5_beginTurn_0, r_X5_beginTurn_1, r_X5_beginTurn_2, r_X5_beginTurn_5, r_X5_beginTurn_6, r_X5_beginTurn_7, r_X5_beginTurn_10, xo w1, true_and, w5, nI_add, mN_e]
  have hf : XF [11] [] [] σ (va_up σ.1 11 (some (5, upd fi 3 (nI (tn + 1)), fr)), σ.2) := XF_o (XF_rf _ _ _ _) (Or.inl (by simp))
  have h24 := SPC_24 _ _ w6
  have hk : ∀ c o, T c ≠ none → σ.1 c = some o → (va_up σ.1 11 (some (5, upd fi 3 (nI (tn + 1)), fr))) c = some o := fun c o hc ho => by
    have := (XC_nn hC hc).1
    rw [va_up_ne _ _ (by omega)]; exact ho
  refine ⟨⟨⟨XC_f hC hf (fun k hk => by simp at hk; subst hk; exact XC_24 hC (by omega)) (fun k hk => by simp at hk), hT, ⟨upd fi 3 (nI (tn + 1)), fr, by simp only [va_up_self], w2, w3, w4, pk_us, SPC_f sp _ w6 (fun k o hk ho => hf.1 k o (by have := h24 k hk; simp; omega) ho)⟩, ⟨g, r1, r2⟩, ⟨P, PCS_f hP hf (by omega) (by simp) (by simp)⟩, ⟨L, TXT_f hL hf (by simp) (by simp)⟩, fun c o hc ho => ?_, hnd, hsp⟩, ?_, h.2.2⟩, fun c hc => ?_⟩
  · obtain ⟨-, o', p1, -⟩ := XC_nn hC hc
    have := hk c o' hc p1
    have ho : va_up σ.1 11 (some (5, upd fi 3 (nI (tn + 1)), fr)) c = some o := ho
    rw [this] at ho
    cases ho
    obtain ⟨⟨m, m1, m2⟩, m3⟩ := hM c _ hc p1
    exact ⟨⟨m, by omega, m2⟩, m3⟩
  · obtain ⟨P, hP⟩ := h.2.1.2.2.2.2.2.2.1
    obtain ⟨A, hA⟩ := h.2.1.2.2.2.2.2.2.2.2.1
    obtain ⟨B, hB⟩ := h.2.1.2.2.2.2.2.2.2.2.2.1
    exact XO_s h.2.1 (ZF_x hf) (by simp) (by simp) (by simp) ⟨P, PCS_f hP hf (by omega) (by simp) (by simp)⟩ ⟨A, TXT_f hA hf (by simp) (by simp)⟩ ⟨B, TXT_f hB hf (by simp) (by simp)⟩
  · obtain ⟨-, o', p1, -⟩ := XC_nn hC hc
    obtain ⟨⟨m, m1, m2⟩, -⟩ := hM c o' hc p1
    exact ⟨o', m, hk c o' hc p1, by omega, m2⟩
set_option maxHeartbeats 4000000 in
theorem p_join' (h : XS σ T sl im en nu ev dr sm dp lo tn st sp) (htn : tn + 1 < 2 ^ 31) (t a b : Int32) {ret : Option mV → xS → Prop} (hret : ∀ (r : Int32) (σ' : xS), (((ix sl t = none ∨ ix sl a = none ∨ ix sl b = none) ∧ r = Int32.ofInt (-1) ∧ XS σ' T sl im en nu ev dr sm dp lo tn st sp) ∨ (∃ j c d, j < 8 ∧ t = nI j ∧ ix sl a = some c ∧ ix sl b = some d ∧ ((120 < (tx T 13 c).length + (tx T 13 d).length ∧ r = Int32.ofInt (-4) ∧ XS σ' T sl im en nu ev dr sm dp lo tn st sp) ∨
    ((tx T 13 c).length + (tx T 13 d).length ≤ 120 ∧ r = nI ((tx T 13 c).length + (tx T 13 d).length) ∧ ∃ T' k F sp', CN T T' (joinT T sm dp (tl (.inl c)) (tl (.inl d))) k F ∧ XS σ' T' (sl.set j k) im en nu ev dr sm dp lo (tn + 1) st sp')))) → ret (some (.inl r)) σ') : P_X6_join [.inr (some 0), .inl t, .inl a, .inl b] σ 1100 13000 ret := by
  obtain ⟨⟨fi, fr, a1, a2, a3, a4, a5, a6, a7, a8, -⟩, -⟩ := id h.2.1
  obtain ⟨b1, b2, b3, b4, b5⟩ := id h.2.2.2.2
  refine e_X6_join t a b 0 σ 1100 13000 _ _ a1 rfl ?_
  simp only [r_X6_join_0, r_X6_join_1, r_X6_join_2]
  refine ⟨_, XO_cellOf h.2.1 a, ?_⟩
  rintro r s1 ⟨hs, hr⟩
  subst hs
  subst hr
  simp only [r_X6_join_5, r_X6_join_7, r_X6_join_8, r_X6_join_9]
  refine ⟨_, XO_cellOf h.2.1 b, ?_⟩
  rintro r s2 ⟨hs, hr⟩
  subst hs
  subst hr
  simp only [r_X6_join_12, r_X6_join_14, r_X6_join_15]
  refine ⟨_, p_isSlot s2 t, ?_⟩
  rintro r s3 ⟨hs, hr⟩
  subst hs
  subst hr
  rcases ix_8 (XS_sl8 h) t with ⟨h1, h2⟩ | ⟨j, x, rfl, hj, hx, h1, h2⟩
  · rw [if_neg h2]
    simp only [r_X6_join_18, r_X6_join_31, r_X6_join_32]
    exact ⟨fun _ => hret _ _ (Or.inl ⟨Or.inl h1, rfl, h⟩), fun z => absurd trivial z⟩
  rw [if_pos h2]
  cases hc : ix sl a with
  | none =>
    simp only [r_X6_join_18, r_X6_join_21, r_X6_join_23, r_X6_join_31, r_X6_join_32, sNS, and_true]
    exact ⟨fun z => absurd z (by decide), fun _ _ => hret _ _ (Or.inl ⟨Or.inr (Or.inl hc), rfl, h⟩)⟩
  | some c =>
    cases hd : ix sl b with
    | none =>
      simp only [r_X6_join_18, r_X6_join_21, r_X6_join_23, r_X6_join_26, r_X6_join_28, r_X6_join_31, r_X6_join_32, sN, sS, sNS, true_and]
      exact ⟨fun z => absurd z (by decide), fun _ _ => hret _ _ (Or.inl ⟨Or.inr (Or.inr hd), rfl, h⟩)⟩
    | some d =>
      obtain ⟨c1, c2, c3, c4, c5, c6, oc, oc1, oc2, oc3, -⟩ := XS_c h (XS_ix h hc)
      obtain ⟨d1, d2, d3, d4, d5, d6, od, od1, od2, od3, -⟩ := XS_c h (XS_ix h hd)
      simp only [r_X6_join_18, r_X6_join_21, r_X6_join_23, r_X6_join_26, r_X6_join_28, r_X6_join_33, r_X6_join_35, r_X6_join_38, r_X6_join_40, r_X6_join_43, r_X6_join_44, r_X6_join_46, r_X6_join_49, r_X6_join_51, sN, sS, and_true, true_and, xo oc1, oc2, oc3, xo od1, od2, od3, nI_add, nI_leI (show (tx T 13 c).length + (tx T 13 d).length < 2 ^ 31 by omega) (show 120 < 2 ^ 31 by omega)]
      refine ⟨fun z => absurd z (by decide), fun _ => ⟨fun hle => ?_, fun hgt => hret _ _ (Or.inr ⟨j, c, d, hj, rfl, hc, hd, Or.inl ⟨by omega, rfl, h⟩⟩)⟩⟩
      rw [r_X6_join_52]
      simp only [r_X6_join_53, r_X6_join_56, xo a1, a8, true_and]
      refine ⟨_, q_beginTurn h, ?_⟩
      rintro s4 ⟨hS4, hO4⟩
      obtain ⟨⟨zi, zr, y1, y2, y3, y4, y5, y6, y7, y8, -⟩, -⟩ := id hS4.2.1
      rw [r_X6_join_59]
      simp only [r_X6_join_60, r_X6_join_61, r_X6_join_62, r_X6_join_65, r_X6_join_67, r_X6_join_69, xo y1, y8, true_and]
      have hlen : (ttx T (tl (.inl c))).length + (ttx T (tl (.inl d))).length ≤ 120 := by
        show (tx T 12 c).length + (tx T 12 d).length ≤ 120
        rw [← c4, ← d4]; exact hle
      have lc : (tps T (tl (.inl c))).length ≤ 120 := by
        show ((pcs T 12 c).map Sum.inl).length ≤ 120
        rw [List.length_map]; exact pcs_120 c1
      have ld : (tps T (tl (.inl d))).length ≤ 120 := by
        show ((pcs T 12 d).map Sum.inl).length ≤ 120
        rw [List.length_map]; exact pcs_120 d1
      refine ⟨1100, 13000, _, Nat.le_refl _, Nat.le_refl _, q_joined (T0 := T) (T1 := T) (T := T) (fun _ _ z => z) (fun _ _ z => z) hS4.1.2.1 hS4.1 hO4 b1 b3 htn (ta := tl (.inl c)) (tb := tl (.inl d)) (Fa := []) (Fb := []) c1 d1 ⟨rfl, rfl⟩ ⟨rfl, rfl⟩ (by simp) (fun z hz => by simp at hz) (fun z hz => by simp at hz) hlen 1100 13000 (by omega) (by omega), ?_⟩
      rintro r s5 ⟨k, T', sp', F, rfl, e1, e2, e3, e4, e5, e6, e7, e8⟩
      have hS5 := XS_ext hS4 e1 e2 (XO_y hS4.2.1 e4)
      obtain ⟨tj1, tj2⟩ := joinT_ok (T := T) (sm := sm) (dp := dp) (a := tl (.inl c)) (b := tl (.inl d)) c1 d1 b3 hlen
      obtain ⟨k1, k2, -, -⟩ := rT_ok e1 _ 12 k F (Nat.le_refl _) tj1 e5
      rw [r_X6_join_72]
      refine ⟨_, q_hold hS5 hj k1, ?_⟩
      rintro r s6 ⟨rfl, hS6⟩
      rw [r_X6_join_75]
      refine hret _ _ (Or.inr ⟨j, c, d, hj, rfl, hc, hd, Or.inr ⟨hle, ?_, T', k, F, sp', ⟨e1, tj1, e5, e6, e7⟩, hS6⟩⟩)
      rw [k2, tj2, List.length_append]
      show nI ((tx T 12 c).length + (tx T 12 d).length) = _
      rw [c4, d4]
set_option maxHeartbeats 4000000 in
theorem p_cut' (h : XS σ T sl im en nu ev dr sm dp lo tn st sp) (htn : tn + 1 < 2 ^ 31) (t a f n : Int32) {ret : Option mV → xS → Prop} (hret : ∀ (r : Int32) (σ' : xS), (((ix sl t = none ∨ ix sl a = none) ∧ r = Int32.ofInt (-1) ∧ XS σ' T sl im en nu ev dr sm dp lo tn st sp) ∨ (∃ j c, j < 8 ∧ t = nI j ∧ ix sl a = some c ∧ ((¬ (∃ x y, f = nI x ∧ n = nI y ∧ x + y ≤ (tx T 13 c).length) ∧ r = Int32.ofInt (-2) ∧ XS σ' T sl im en nu ev dr sm dp lo tn st sp) ∨
    (∃ x y, f = nI x ∧ n = nI y ∧ x + y ≤ (tx T 13 c).length ∧ r = n ∧ ∃ T' k F sp', CN T T' (cutT T sm dp lo 12 c x y) k F ∧ XS σ' T' (sl.set j k) im en nu ev dr sm dp lo (tn + 1) st sp')))) → ret (some (.inl r)) σ') : P_X6_cut [.inr (some 0), .inl t, .inl a, .inl f, .inl n] σ 1100 13000 ret := by
  obtain ⟨⟨fi, fr, a1, a2, a3, a4, a5, a6, a7, a8, -⟩, -⟩ := id h.2.1
  obtain ⟨b1, b2, b3, b4, b5⟩ := id h.2.2.2.2
  refine e_X6_cut t a f n 0 σ 1100 13000 _ _ a1 rfl ?_
  simp only [r_X6_cut_0, r_X6_cut_1, r_X6_cut_2]
  refine ⟨_, XO_cellOf h.2.1 a, ?_⟩
  rintro r s1 ⟨hs, hr⟩
  subst hs
  subst hr
  simp only [r_X6_cut_5, r_X6_cut_7, r_X6_cut_8]
  refine ⟨_, p_isSlot s1 t, ?_⟩
  rintro r s3 ⟨hs, hr⟩
  subst hs
  subst hr
  rcases ix_8 (XS_sl8 h) t with ⟨h1, h2⟩ | ⟨j, x, rfl, hj, hx, h1, h2⟩
  · rw [if_neg h2]
    simp only [r_X6_cut_11, r_X6_cut_19, r_X6_cut_20]
    exact ⟨fun _ => hret _ _ (Or.inl ⟨Or.inl h1, rfl, h⟩), fun z => absurd trivial z⟩
  rw [if_pos h2]
  cases hc : ix sl a with
  | none =>
    simp only [r_X6_cut_11, r_X6_cut_14, r_X6_cut_16, r_X6_cut_19, r_X6_cut_20, sNS, true_and]
    exact ⟨fun z => absurd z (by decide), fun _ _ => hret _ _ (Or.inl ⟨Or.inr hc, rfl, h⟩)⟩
  | some c =>
    obtain ⟨c1, c2, c3, c4, c5, c6, oc, oc1, oc2, oc3, -⟩ := XS_c h (XS_ix h hc)
    simp only [r_X6_cut_11, r_X6_cut_14, r_X6_cut_16, r_X6_cut_21, r_X6_cut_22, r_X6_cut_25, r_X6_cut_27, r_X6_cut_30, r_X6_cut_31, r_X6_cut_33, r_X6_cut_36, r_X6_cut_39, r_X6_cut_41, r_X6_cut_43, r_X6_cut_46, r_X6_cut_47, r_X6_cut_48, r_X6_cut_51, r_X6_cut_53, sN, sS, and_true, true_and, xo oc1, oc2, oc3]
    refine ⟨fun z => absurd z (by decide), fun _ => ⟨fun hf0 => ?_, fun hf0 => ⟨fun hn0 => ?_, fun hn0 => ?_⟩⟩⟩
    · refine hret _ _ (Or.inr ⟨j, c, hj, rfl, hc, Or.inl ⟨?_, rfl, h⟩⟩)
      rintro ⟨x, y, rfl, rfl, hxy⟩
      exact absurd hf0 (nI_pos (by omega))
    · refine hret _ _ (Or.inr ⟨j, c, hj, rfl, hc, Or.inl ⟨?_, rfl, h⟩⟩)
      rintro ⟨x, y, rfl, rfl, hxy⟩
      exact absurd hn0 (nI_pos (by omega))
    · obtain ⟨x, hx31, rfl⟩ := nI_of hf0
      obtain ⟨y, hy31, rfl⟩ := nI_of hn0
      have e1 : (nI (tx T 13 c).length < nI x) ↔ (tx T 13 c).length < x := nI_ltI (by omega) hx31
      refine ⟨fun hlt => ?_, fun hge => ?_⟩
      · refine hret _ _ (Or.inr ⟨j, c, hj, rfl, hc, Or.inl ⟨?_, rfl, h⟩⟩)
        rintro ⟨x', y', hx', hy', hxy⟩
        rw [nI_eq hx31 (by omega)] at hx'
        have := e1.mp hlt
        omega
      · have hxl : x ≤ (tx T 13 c).length := by have := mt e1.mpr hge; omega
        rw [pk_sub hxl]
        have e2 : (nI y ≤ nI ((tx T 13 c).length - x)) ↔ y ≤ (tx T 13 c).length - x := nI_leI hy31 (by omega)
        refine ⟨fun hle => ?_, fun hgt => ?_⟩
        · have hyl := e2.mp hle
          rw [r_X6_cut_54]
          simp only [r_X6_cut_55, r_X6_cut_58, xo a1, a8, true_and]
          refine ⟨_, q_beginTurn h, ?_⟩
          rintro s4 ⟨hS4, hO4⟩
          obtain ⟨⟨zi, zr, y1, y2, y3, y4, y5, y6, y7, y8, -⟩, -⟩ := id hS4.2.1
          rw [r_X6_cut_61]
          simp only [r_X6_cut_62, r_X6_cut_63, r_X6_cut_64, r_X6_cut_67, r_X6_cut_69, r_X6_cut_70, r_X6_cut_72, r_X6_cut_73, xo y1, y8, true_and]
          have hfm : x + y ≤ (tx T 12 c).length := by rw [← c4]; omega
          have j1 := jn_le (T := T) 12 c x y hfm
          have s1 := sn_le (T := T) (sm := sm) (dp := dp) (lo := lo) b3 ⟨b4, b5⟩ 12 c x y (Nat.le_refl _) c1 hfm
          refine ⟨1100, 13000, _, Nat.le_refl _, Nat.le_refl _, q_cutOut (T0 := T) b1 b3 ⟨b4, b5⟩ htn 12 7 c x y 0 s4 T sp 1100 13000 (Nat.le_refl _) (fun _ _ z => z) hS4.1 hO4 c1 hfm (by omega) (by omega) (by omega), ?_⟩
          rintro r s5 ⟨k, T', sp', F, rfl, g1, g2, g3, g4, g5, g6, g7, g8⟩
          have hS5 := XS_ext hS4 g1 g2 (XO_y hS4.2.1 g4)
          obtain ⟨tj1, tj2⟩ := cutT_ok (T := T) (sm := sm) (dp := dp) (lo := lo) b3 ⟨b4, b5⟩ 12 c x y (Nat.le_refl _) c1 hfm
          obtain ⟨k1, k2, -, -⟩ := rT_ok g1 _ 12 k F (Nat.le_refl _) tj1 g5
          rw [r_X6_cut_76]
          refine ⟨_, q_hold hS5 hj k1, ?_⟩
          rintro r s6 ⟨rfl, hS6⟩
          rw [r_X6_cut_79]
          refine hret _ _ (Or.inr ⟨j, c, hj, rfl, hc, Or.inr ⟨x, y, rfl, rfl, by omega, ?_, T', k, F, sp', ⟨g1, tj1, g5, g6, g7⟩, hS6⟩⟩)
          rw [k2, tj2, List.length_take, List.length_drop, Nat.min_eq_left (by omega)]
        · refine hret _ _ (Or.inr ⟨j, c, hj, rfl, hc, Or.inl ⟨?_, rfl, h⟩⟩)
          rintro ⟨x', y', hx', hy', hxy⟩
          rw [nI_eq hx31 (by omega)] at hx'
          rw [nI_eq hy31 (by omega)] at hy'
          exact hgt (e2.mpr (by omega))
theorem XS_flat (h : XS σ T sl im en nu ev dr sm dp lo tn st sp) {c : Nat} (hw : wf T 13 c) (hl : ∀ t, T c ≠ some (.inl t)) {o : xO} (ho : σ.1 c = some o) {σ' : xS} (hp : ∃ q g fi fr, frs σ q ∧ σ' = (va_up σ.1 c (some (0, fi, fr)), va_up σ.2.1 q (some ((tx T 13 c).length, g)), σ.2.2) ∧ AP g (tx T 13 c) ∧ fi 0 = nI 0 ∧ fi 6 = nI 0 ∧ (∀ j, j ≠ 0 → j ≠ 6 → fi j = o.2.1 j) ∧ fr 2 = some q ∧ fr 3 = none ∧ fr 4 = none ∧ fr 5 = none) : XS σ' (flT T c) sl im en nu ev dr sm dp lo tn st sp := by
  obtain ⟨q, g, fi, fr, hq, rfl, h1, h2, h3, h4, h5, h6, h7, h8⟩ := hp
  obtain ⟨hC, hT, ⟨wi, wr, w1, w2, w3, w4, w5, w6⟩, ⟨g0, r1, r2⟩, ⟨P0, hP⟩, ⟨L0, hL0⟩, hM, hnd, hsp⟩ := id h.1
  have hcn := wf_nn hw
  obtain ⟨v, hv⟩ := Option.ne_none_iff_exists'.mp hcn
  obtain ⟨c24, oc, oc1, oc2, oc3, -⟩ := hC c v hv
  rw [ho] at oc1
  cases oc1
  have hX : XF [c] [] [] σ (va_up σ.1 c (some (0, fi, fr)), va_up σ.2.1 q (some ((tx T 13 c).length, g)), σ.2.2) := XF_o (XF_g (XF_rf _ _ _ _) (Or.inr ⟨hq.1, hq.2.2.1⟩)) (Or.inl (by simp))
  have hz := ZF_hi hX (by simp; omega)
  have hfl := flT_wf hw hl
  have hcs : ∀ k ∈ sp, k ≠ c := fun k hk z => hcn (by rw [← z]; exact hsp k hk)
  refine ⟨⟨fun x w hx => ?_, fun x hx => (hfl 13 x (Nat.le_refl _) (hT x ((flT_nn hcn).mp hx))).1, ⟨wi, wr, hz.1 11 _ (by omega) (by simp) w1, w2, w3, w4, w5, SPC_f sp _ w6 (fun k o' hk ho' => hX.1 k o' (by simp; exact hcs k hk) ho')⟩, ⟨g0, hz.2.1 12 _ (by omega) (by simp) r1, r2⟩, ⟨P0, PCS_z hP hz (by omega) (by simp) (by simp)⟩, ⟨L0, TXT_z hL0 hz (by omega) (by simp) (by simp)⟩, fun x o' hx ho' => ?_, hnd, fun k hk => by rw [flT_n (hcs k hk)]; exact hsp k hk⟩, XO_z0 h.2.1 hz, fun r hr => (hfl 12 r (by omega) (h.2.2.1 r hr)).1, h.2.2.2⟩
  · by_cases hxc : x = c
    · subst hxc
      rw [flT_s] at hx
      cases hx
      refine ⟨c24, (0, fi, fr), va_up_self _ _ _, rfl, ?_, h2, h3, h6, h7, h8, q, g, h5, hq.1, va_up_self _ _ _, h1⟩
      show fi 1 = _
      rw [h4 1 (by decide) (by decide), tx_leaf (flT_s T x)]
      exact oc3
    · have hx' := hx
      rw [flT_n hxc] at hx'
      have hxn : T x ≠ none := by rw [hx']; exact fun z => by cases z
      obtain ⟨g1, o', g2, g3, g4, g5⟩ := hC x w hx'
      refine ⟨g1, o', hX.1 x o' (by simp; exact hxc) g2, g3, ?_, xck_f g5 hX (fun k hk => by simp at hk)⟩
      rw [g4, (hfl 13 x (Nat.le_refl _) (hT x hxn)).2]
  · by_cases hxc : x = c
    · subst hxc
      have ho' : va_up σ.1 x (some (0, fi, fr)) x = some o' := ho'
      rw [va_up_self] at ho'
      cases ho'
      obtain ⟨m1, m2⟩ := hM x _ hcn ho
      refine ⟨?_, ?_⟩
      · show ∃ m, m ≤ tn ∧ fi 7 = nI m
        rw [h4 7 (by decide) (by decide)]; exact m1
      · show ∃ s, s ≤ st ∧ fi 8 = nI s
        rw [h4 8 (by decide) (by decide)]; exact m2
    · have ho' : va_up σ.1 c (some (0, fi, fr)) x = some o' := ho'
      rw [va_up_ne _ _ hxc] at ho'
      exact hM x o' ((flT_nn hcn).mp hx) ho'
theorem p_flat' (h : XS σ T sl im en nu ev dr sm dp lo tn st sp) (s : Int32) {ret : Option mV → xS → Prop} (hret : ∀ (r : Int32) (σ' : xS), ((ix sl s = none ∧ r = Int32.ofInt (-1) ∧ XS σ' T sl im en nu ev dr sm dp lo tn st sp) ∨ (∃ c, ix sl s = some c ∧ r = nI (pcs T 13 c).length ∧ XS σ' (flT T c) sl im en nu ev dr sm dp lo tn st sp)) → ret (some (.inl r)) σ') : P_X6_flat [.inr (some 0), .inl s] σ 1100 13000 ret := by
  obtain ⟨⟨fi, fr, a1, a2, a3, a4, a5, a6, a7, a8, a9, a10, -⟩, -⟩ := id h.2.1
  refine e_X6_flat s 0 σ 1100 13000 _ _ a1 rfl ?_
  simp only [r_X6_flat_0, r_X6_flat_1, r_X6_flat_2]
  refine ⟨_, XO_cellOf h.2.1 s, ?_⟩
  rintro r s' ⟨hs, hr⟩
  subst hs
  subst hr
  cases hc : ix sl s with
  | none =>
    simp only [r_X6_flat_5, r_X6_flat_6, r_X6_flat_7, r_X6_flat_10, r_X6_flat_11, sNS, true_and]
    exact fun _ => hret _ _ (Or.inl ⟨hc, rfl, h⟩)
  | some c =>
    obtain ⟨w1, w2, w3, w4, w5, w6, -⟩ := XS_c h (XS_ix h hc)
    simp only [r_X6_flat_5, r_X6_flat_6, r_X6_flat_7, r_X6_flat_12, r_X6_flat_13, r_X6_flat_16, r_X6_flat_17, sN, sS, and_true, xo a1, a7, true_and]
    obtain ⟨P, hP⟩ := h.2.1.2.2.2.2.2.2.1
    refine ⟨_, q_piecesRead (t := 9) (by omega) h.1.1 w2 hP, ?_⟩
    rintro s1 ⟨f1, t1⟩
    have hS := XS_9 h f1 t1
    obtain ⟨⟨zi, zr, b1, b2, b3, b4, b5, b6, b7, b8, b9, b10, -⟩, -⟩ := id hS.2.1
    obtain ⟨-, -, -, -, -, -, o, o1, o2, o3, o4⟩ := XS_c hS (XS_ix hS hc)
    obtain ⟨pi, pr, pg, p1, p2, p3, -⟩ := id t1
    obtain ⟨v, hv⟩ := Option.ne_none_iff_exists'.mp w3
    rw [r_X6_flat_20]
    simp only [r_X6_flat_21, r_X6_flat_24, xo o1, o2, o4, true_and]
    by_cases hlf : ∃ t, T c = some (.inl t)
    · obtain ⟨t, ht⟩ := hlf
      have ek : kd T c = 0 := by simp only [kd, ht]
      rw [ek]
      refine ⟨fun _ => ?_, fun z => absurd nI_0 z⟩
      simp only [r_X6_flat_43, r_X6_flat_44, r_X6_flat_47, r_X6_flat_50, xo b1, b7, xo p1, p3, true_and]
      exact hret _ _ (Or.inr ⟨c, hc, rfl, by rw [flT_leaf ht]; exact hS⟩)
    · have hl : ∀ t, T c ≠ some (.inl t) := fun t ht => hlf ⟨t, ht⟩
      have ek : kd T c = 1 ∨ kd T c = 2 := by
        rcases v with t | q | q
        · exact absurd hv (hl t)
        · exact Or.inl (by simp only [kd, hv])
        · exact Or.inr (by simp only [kd, hv])
      refine ⟨fun z => by rcases ek with ek | ek <;> rw [ek] at z <;> exact absurd z (by decide), fun _ => ?_⟩
      simp only [r_X6_flat_27, r_X6_flat_28, r_X6_flat_31, r_X6_flat_32, xo b1, b10, true_and]
      obtain ⟨L, hL⟩ := hS.2.1.2.2.2.2.2.2.2.2.1
      refine ⟨_, q_read (t := 18) (by omega) hS.1.1 w2 hL, ?_⟩
      rintro s2 ⟨f2, t2⟩
      have hS2 := XS_18 hS f2 t2
      have t1' := PCS_f t1 f2 (by omega) (by simp) (by simp)
      obtain ⟨⟨yi, yr, c1, -, -, -, -, -, c7, -, -, c10, -⟩, -⟩ := id hS2.2.1
      obtain ⟨-, -, -, -, -, -, o', o1', o2', -⟩ := XS_c hS2 (XS_ix hS2 hc)
      rw [r_X6_flat_35]
      simp only [r_X6_flat_36, r_X6_flat_37, r_X6_flat_40, xo c1, c10, true_and]
      refine ⟨1, (tx T 13 c).length, _, by omega, by omega, q_becomeLeaf t2 o1' o2' (by omega), ?_⟩
      intro s3 hp
      have hS3 := XS_flat hS2 w2 hl o1' hp
      obtain ⟨⟨yi', yr', d1, -, -, -, -, -, d7, -⟩, -⟩ := id hS3.2.1
      have t3 : PCS s3 9 (pcs T 13 c) := by
        obtain ⟨q, g, fi', fr', hq, rfl, -⟩ := hp
        exact PCS_f t1' (XF_o (lo := [c]) (lg := []) (lr := []) (XF_g (XF_rf _ _ _ _) (Or.inr ⟨hq.1, hq.2.2.1⟩)) (Or.inl (by simp))) (by omega) (by simp; omega) (by simp)
      obtain ⟨qi, qr, qg, q1, q2, q3, -⟩ := id t3
      rw [r_X6_flat_43]
      simp only [r_X6_flat_44, r_X6_flat_47, r_X6_flat_50, xo d1, d7, xo q1, q3, true_and]
      exact hret _ _ (Or.inr ⟨c, hc, rfl, hS3⟩)
end
