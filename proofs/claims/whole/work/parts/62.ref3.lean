/-! ===== the reference: texts ===== -/
def RX (T : sT) (ι : Nat → Nat) (μ : rf_M) : Prop := ∀ c t, T c = some (.inl t) → ∃ p, μ.2 1 (ι c) = nI p ∧ p + t.length ≤ 81920 ∧ ∀ j x, t[j]? = some x → μ.2 7 (p + j) = x
theorem RX_keep {T : sT} {ι : Nat → Nat} {μ μ' : rf_M} (h : RX T ι μ) (h1 : μ'.2 1 = μ.2 1) (h7 : μ'.2 7 = μ.2 7) : RX T ι μ' := fun c t hc => by rw [h1, h7]; exact h c t hc
theorem RK_ch {T : sT} {ι : Nat → Nat} {μ μ' : rf_M} {l : List Nat} (h : RK T ι μ) (hc : CH l μ μ') (h0 : 0 ∉ l) (h1 : 1 ∉ l) (h2 : 2 ∉ l) (h3 : 3 ∉ l) : RK T ι μ' := RK_keep h (hc 0 h0).2 (hc 1 h1).2 (hc 2 h2).2 (hc 3 h3).2
theorem RX_ch {T : sT} {ι : Nat → Nat} {μ μ' : rf_M} {l : List Nat} (h : RX T ι μ) (hc : CH l μ μ') (h1 : 1 ∉ l) (h7 : 7 ∉ l) : RX T ι μ' := RX_keep h (hc 1 h1).2 (hc 7 h7).2
theorem k_signOf {T : sT} {ι : Nat → Nat} {μ : rf_M} (hK : RK T ι μ) (hX : RX T ι μ) {x : Nat} (hp : isPc T x) {i : Nat} {v : Int32} (hv : (tx T 0 x)[i]? = some v) : P_signOf [.inr (some 39), .inl (nI (ι x)), .inl (nI i)] μ 0 0 (mI (fun r μ' => μ' = μ ∧ r = v)) := by
  refine e_signOf _ _ μ _ ?_
  simp only [r_signOf_0, r_signOf_1, r_signOf_4, r_signOf_5, r_signOf_6, r_signOf_7, r_signOf_10, r_signOf_11, r_signOf_14, r_signOf_15, r_signOf_18, r_signOf_19, r_signOf_20, r_signOf_21, r_signOf_22, r_signOf_23, r_signOf_26, r_signOf_27, r_signOf_30, r_signOf_31, r_signOf_34, r_signOf_35, r_signOf_38, r_signOf_39, r_signOf_40, r_signOf_41, r_signOf_42, r_signOf_45, r_signOf_46, r_signOf_47, r_signOf_48, r_signOf_49, r_signOf_50, r_signOf_51, mI_e]
  have hil := (List.getElem?_eq_some_iff.mp hv).1
  rcases hp with ⟨t, hc, ht⟩ | ⟨q, hc, hq⟩
  · obtain ⟨h1, h2, -⟩ := hK x _ hc
    obtain ⟨p, p1, p2, p3⟩ := hX x t hc
    have h2 : μ.2 0 (ι x) = nI 1 := h2
    rw [tx_leaf hc] at hv hil
    simp only [nI_clamp (show ι x < 2 ^ 31 by omega), vp_in_i (show ι x < 2 ^ 31 by omega), h1, true_and, h2, not_true_eq_false, false_implies, not_false_eq_true, forall_const, true_and, p1, nI_add, nI_clamp (show p + i < 2 ^ 31 by omega), vp_in_i (show p + i < 2 ^ 31 by omega)]
    exact ⟨by omega, p3 i v hv⟩
  · obtain ⟨h1, ⟨h2, h3, h4⟩, -⟩ := hK x _ hc
    obtain ⟨t, q1, q2, q3, q4, q5⟩ := id hq
    obtain ⟨g1, -, -⟩ := hK q.1 _ q1
    obtain ⟨p, p1, p2, p3⟩ := hX q.1 t q1
    rw [tx_slice hc] at hv hil
    rw [oks_len hq] at hil
    have hlf : lfT T q.1 = t := by simp only [lfT, q1]
    rw [hlf, List.getElem?_take, if_pos hil, List.getElem?_drop] at hv
    have h13 : ¬ (nI 3 = nI 1) := by decide
    have := q2.1
    simp only [nI_clamp (show ι x < 2 ^ 31 by omega), vp_in_i (show ι x < 2 ^ 31 by omega), h1, true_and, h2, h13, not_false_eq_true, forall_const, h3, h4, nI_clamp (show ι q.1 < 2 ^ 31 by omega), vp_in_i (show ι q.1 < 2 ^ 31 by omega), g1, p1, nI_add, nI_clamp (show p + q.2.1 + i < 2 ^ 31 by omega), vp_in_i (show p + q.2.1 + i < 2 ^ 31 by omega), not_true_eq_false, false_implies, and_true]
    refine ⟨by omega, ?_⟩
    have := p3 _ v hv
    rwa [← Nat.add_assoc] at this
theorem fm_take_succ {α β : Type} (f : α → List β) (l : List α) {p : Nat} {x : α} (h : l[p]? = some x) : (l.take (p + 1)).flatMap f = (l.take p).flatMap f ++ f x := by
  rw [List.take_add_one, h]
  simp
set_option maxHeartbeats 4000000 in
theorem k_layText {T : sT} {ι : Nat → Nat} {μ : rf_M} (hK : RK T ι μ) (hX : RX T ι μ) {c : Nat} (hw : wf T 13 c) {pre : List Int32} (hpre : AP (μ.2 21) pre) (hlen : pre.length ≤ 120) : P_layText [.inr (some 39), .inl (nI (ι c)), .inl (nI pre.length)] μ 0 0 (mI (fun r μ' => r = nI (tx T 13 c).length ∧ CH [21, 23, 24, 25, 26] μ μ' ∧ μ'.1 24 = nI (pcs T 13 c).length ∧ AP (μ'.2 21) (pre ++ tx T 13 c))) := by
  refine e_layText _ _ μ _ ?_
  have h120 := pcs_120 hw
  have ht120 := (wf_okt 13 c hw).1
  generalize hret : (mI (fun r μ' => r = nI (tx T 13 c).length ∧ CH [21, 23, 24, 25, 26] μ μ' ∧ μ'.1 24 = nI (pcs T 13 c).length ∧ AP (μ'.2 21) (pre ++ tx T 13 c))) = ret
  have htx := tx_pcs 13 c hw
  have hPc := pcs_isPc 13 c hw
  generalize hP : pcs T 13 c = P at h120 htx hPc hret
  have key : ∀ x : Nat × rf_M × Option mV, (x.1 ≤ P.length ∧ CH [21, 23, 24, 25, 26] μ x.2.1 ∧ x.2.1.1 24 = nI P.length ∧ AP (x.2.1.2 23) (P.map (fun p => nI (ι p))) ∧ AP (x.2.1.2 21) (pre ++ (P.take x.1).flatMap (tx T 0))) →
      W_layText ret (11, [some (.inr (some 39)), some (.inl (nI (ι c))), some (.inl (nI pre.length)), some (.inl (nI (pre.length + ((P.take x.1).flatMap (tx T 0)).length))), some (.inl (nI x.1)), x.2.2], [], x.2.1, 0, 0) := by
    refine mm_loop _ _ (fun x => P.length - x.1) ?_
    rintro ⟨p, μ1, l5⟩ ⟨i0, i1, i2, i3, i4⟩ ih
    dsimp only at i0 i1 i2 i3 i4 ⊢
    rw [r_layText_11]
    simp only [r_layText_0, r_layText_1, r_layText_2, r_layText_5, r_layText_6, r_layText_7, r_layText_8, r_layText_9, r_layText_13, r_layText_14, r_layText_17, r_layText_20, r_layText_21, r_layText_25, r_layText_26, r_layText_29, r_layText_30, r_layText_33, r_layText_35, r_layText_36, r_layText_37, r_layText_40, r_layText_41, r_layText_44, r_layText_45, r_layText_46, r_layText_47, r_layText_50, r_layText_52, r_layText_53, r_layText_55, r_layText_58, r_layText_59, r_layText_62, r_layText_65, r_layText_68, r_layText_71, r_layText_74, r_layText_75, r_layText_76, r_layText_77, i2]
    refine ⟨fun h => ?_, fun h => ?_⟩
    · rw [nI_leI (by omega) (by omega)] at h
      have hpp : p = P.length := by omega
      subst hpp
      rw [List.take_length] at i4 ⊢
      rw [← htx] at i4 ⊢
      subst hret
      rw [mI_e]
      refine ⟨?_, i1, i2, i4⟩
      rw [pk_sub (by omega)]
      congr 1
      omega
    · rw [nI_leI (by omega) (by omega)] at h
      have hp : p < P.length := by omega
      obtain ⟨x, hx⟩ : ∃ x, P[p]? = some x := ⟨P[p], List.getElem?_eq_getElem hp⟩
      have hxm : x ∈ P := List.mem_of_getElem? hx
      have e23 : μ1.2 23 p = nI (ι x) := i3 p _ (by rw [List.getElem?_map, hx]; rfl)
      have hpc := hPc x hxm
      have hT : ∃ v, T x = some v := by rcases hpc with ⟨t, h, _⟩ | ⟨q, h, _⟩ <;> exact ⟨_, h⟩
      obtain ⟨v, hv⟩ := hT
      have hK1 : RK T ι μ1 := RK_ch hK i1 (by decide) (by decide) (by decide) (by decide)
      have hX1 : RX T ι μ1 := RX_ch hX i1 (by decide) (by decide)
      have e3 : μ1.2 3 (ι x) = nI (tx T 0 x).length := by
        rw [(hK1 x v hv).2.2, (wf_le (Nat.zero_le 13) (isPc_wf (n := 0) hpc)).2.1]
      have hix := (hK1 x v hv).1
      have hsum := fm_take_succ (tx T 0) P hx
      have hle : ((P.take p).flatMap (tx T 0)).length + (tx T 0 x).length ≤ 120 := by
        have h1 : ((P.take (p + 1)).flatMap (tx T 0)).length ≤ (P.flatMap (tx T 0)).length := by
          conv => rhs; rw [← List.take_append_drop (p + 1) P, List.flatMap_append, List.length_append]
          omega
        rw [hsum, List.length_append, ← htx] at h1
        omega
      have inner : ∀ y : Nat × rf_M, (y.1 ≤ (tx T 0 x).length ∧ CH [21] μ1 y.2 ∧ AP (y.2.2 21) ((pre ++ (P.take p).flatMap (tx T 0)) ++ (tx T 0 x).take y.1)) →
          W_layText ret (23, [some (.inr (some 39)), some (.inl (nI (ι c))), some (.inl (nI pre.length)), some (.inl (nI (pre.length + ((P.take p).flatMap (tx T 0)).length + y.1))), some (.inl (nI p)), some (.inl (nI y.1))], [], y.2, 0, 0) := by
        refine mm_loop _ _ (fun y => (tx T 0 x).length - y.1) ?_
        rintro ⟨i, μ2⟩ ⟨j0, j1, j2⟩ ih2
        dsimp only at j0 j1 j2 ⊢
        have f23 : μ2.2 23 p = nI (ι x) := by rw [(j1 23 (by decide)).2]; exact e23
        have f3 : μ2.2 3 (ι x) = nI (tx T 0 x).length := by rw [(j1 3 (by decide)).2]; exact e3
        rw [r_layText_23]
        simp only [r_layText_0, r_layText_1, r_layText_2, r_layText_5, r_layText_6, r_layText_7, r_layText_8, r_layText_9, r_layText_13, r_layText_14, r_layText_17, r_layText_20, r_layText_21, r_layText_25, r_layText_26, r_layText_29, r_layText_30, r_layText_33, r_layText_35, r_layText_36, r_layText_37, r_layText_40, r_layText_41, r_layText_44, r_layText_45, r_layText_46, r_layText_47, r_layText_50, r_layText_52, r_layText_53, r_layText_55, r_layText_58, r_layText_59, r_layText_62, r_layText_65, r_layText_68, r_layText_71, r_layText_74, r_layText_75, r_layText_76, r_layText_77, nI_clamp (show p < 2 ^ 31 by omega), vp_in_i (show p < 2 ^ 31 by omega), f23, nI_clamp (show ι x < 2 ^ 31 by omega), vp_in_i (show ι x < 2 ^ 31 by omega), hix, f3, true_and, show p < 240 by omega]
        refine ⟨fun h => ?_, fun h => ?_⟩
        · rw [nI_leI (by omega) (by omega)] at h
          have : i = (tx T 0 x).length := by omega
          subst this
          rw [List.take_length, List.append_assoc, ← hsum] at j2
          have hh := ih (p + 1, μ2, some (.inl (nI (tx T 0 x).length))) ⟨by dsimp only; omega, CH_tr i1 j1 (by decide) (by decide), by dsimp only; rw [(j1 24 (by decide)).1]; exact i2, by dsimp only; rw [(j1 23 (by decide)).2]; exact i3, j2⟩ (by dsimp only; omega)
          dsimp only at hh
          rw [hsum, List.length_append, ← Nat.add_assoc] at hh
          rw [nI_add]
          exact hh
        · rw [nI_leI (by omega) (by omega)] at h
          obtain ⟨w, hw2⟩ : ∃ w, (tx T 0 x)[i]? = some w := ⟨_, List.getElem?_eq_getElem (by omega)⟩
          refine ⟨_, k_signOf (RK_ch hK1 j1 (by decide) (by decide) (by decide) (by decide)) (RX_ch hX1 j1 (by decide) (by decide)) hpc hw2, ?_⟩
          rintro r s' ⟨rfl, rfl⟩
          simp only [nI_clamp (show pre.length + ((P.take p).flatMap (tx T 0)).length + i < 2 ^ 31 by omega), vp_in_i (show pre.length + ((P.take p).flatMap (tx T 0)).length + i < 2 ^ 31 by omega)]
          refine ⟨by omega, ?_⟩
          have hh := ih2 (i + 1, (s'.1, rf_up s'.2 21 (pre.length + ((P.take p).flatMap (tx T 0)).length + i) r)) ⟨by dsimp only; omega, CH_a2 j1 (by decide), ?_⟩ (by dsimp only; omega)
          · dsimp only at hh
            rw [nI_add, nI_add]
            exact hh
          · dsimp only
            rw [rf_up_s]
            have a1 := AP_push j2 r
            rw [List.length_append, List.length_append, List.length_take, Nat.min_eq_left (by omega), List.append_assoc (pre ++ _)] at a1
            rw [List.take_add_one, hw2]
            exact a1
      have hh := inner (0, μ1) ⟨Nat.zero_le _, CH_rf _ _, by simpa using i4⟩
      exact hh
  simp only [r_layText_0, r_layText_1, r_layText_2, r_layText_5, r_layText_6, r_layText_7, r_layText_8, r_layText_9, r_layText_13, r_layText_14, r_layText_17, r_layText_20, r_layText_21, r_layText_25, r_layText_26, r_layText_29, r_layText_30, r_layText_33, r_layText_35, r_layText_36, r_layText_37, r_layText_40, r_layText_41, r_layText_44, r_layText_45, r_layText_46, r_layText_47, r_layText_50, r_layText_52, r_layText_53, r_layText_55, r_layText_58, r_layText_59, r_layText_62, r_layText_65, r_layText_68, r_layText_71, r_layText_74, r_layText_75, r_layText_76, r_layText_77]
  refine ⟨_, k_layPieces hK hw, ?_⟩
  rintro r s' ⟨rfl, h1, h2, h3⟩
  rw [hP] at h2 h3
  have hh := key (0, s', none) ⟨Nat.zero_le _, CH_w h1 (by decide), h2, h3, by rw [(h1 21 (by decide)).2]; simpa using hpre⟩
  exact hh
