/-! ===== the class: texts and pieces read ===== -/
theorem sN {A : Type} {p : A} {P : Prop} : (some p = none → P) = True := propext ⟨fun _ => trivial, fun _ z => by cases z⟩
theorem sS {A : Type} {p : A} {P : Prop} : (∀ q, some p = some q → P) = P := propext ⟨fun h => h p rfl, fun h q _ => h⟩
theorem q_addSigns {t : Nat} (ht : t ≤ 20) {T : sT} {b f m : Nat} {tb : List Int32} (hb : T b = some (.inl tb)) (hl : tb.length ≤ 120) (hfm : f + m ≤ tb.length) {σ : xS} {L : List Int32} (hC : XC σ T) (hx : TXT σ t L) (hLm : L.length + m ≤ 120) : P_X3_addSigns [.inr (some t), .inr (some b), .inl (nI f), .inl (nI m)] σ 0 0 (mN (fun σ' => XF [t] [t + 1] [] σ σ' ∧ TXT σ' t (L ++ (tb.drop f).take m))) := by
  obtain ⟨fi, fr, g, a1, -⟩ := id hx
  refine e_X3_addSigns (nI f) (nI m) (some b) t σ 0 0 _ _ a1 rfl ?_
  generalize hret : (mN (fun σ' => XF [t] [t + 1] [] σ σ' ∧ TXT σ' t (L ++ (tb.drop f).take m))) = ret
  have key : ∀ y : Nat × xS, (y.1 ≤ m ∧ XF [t] [t + 1] [] σ y.2 ∧ TXT y.2 t (L ++ (tb.drop f).take y.1)) → W_X3_addSigns ret (8, [some (.inr (some t)), some (.inr (some b)), some (.inl (nI f)), some (.inl (nI m)), some (.inl (nI y.1))], [], y.2, 0, 0) := by
    refine mm_loop _ _ (fun y => m - y.1) ?_
    rintro ⟨i, σ1⟩ ⟨j0, j1, j2⟩ ih
    dsimp only at j0 j1 j2 ⊢
    rw [r_X3_addSigns_8]
    simp only [r_X3_addSigns_0, r_X3_addSigns_1, r_X3_addSigns_4, r_X3_addSigns_5, r_X3_addSigns_6, r_X3_addSigns_10, r_X3_addSigns_11, r_X3_addSigns_14, r_X3_addSigns_15, r_X3_addSigns_16, r_X3_addSigns_17, r_X3_addSigns_19, r_X3_addSigns_20, r_X3_addSigns_23, r_X3_addSigns_26, r_X3_addSigns_29, r_X3_addSigns_32, nI_leI (show m < 2 ^ 31 by omega) (show i < 2 ^ 31 by omega), nI_add]
    refine ⟨fun hle => ?_, fun hle => ?_⟩
    · have : i = m := by omega
      subst this
      subst hret
      rw [mN_e]
      exact ⟨j1, j2⟩
    · have hC1 : XC σ1 T := XC_f hC j1 (fun k hk => by simp at hk; subst hk; exact XC_24 hC (by omega)) (fun k hk => by simp at hk; omega)
      refine ⟨_, q_leafSign hC1 hb hl (nI (f + i)), ?_⟩
      rintro r s' ⟨hs, hr⟩
      subst hs
      obtain ⟨x, hx⟩ : ∃ x, tb[f + i]? = some x := ⟨_, List.getElem?_eq_getElem (show f + i < tb.length by omega)⟩
      rw [ix_nI (by omega), hx] at hr
      have hr : r = x := hr
      subst hr
      have hd : (tb.drop f)[i]? = some r := by rw [List.getElem?_drop]; exact hx
      have hlen : (L ++ (tb.drop f).take i).length = L.length + i := by
        rw [List.length_append, List.length_take, List.length_drop]; omega
      refine ⟨_, q_addSign ht j2 (by omega) r, ?_⟩
      rintro s2 ⟨g1, g2⟩
      refine ih (i + 1, s2) ⟨by dsimp only; omega, XF_same j1 g1, ?_⟩ (by dsimp only; omega)
      dsimp only
      rw [List.take_add_one, hd, ← List.append_assoc]
      exact g2
  simp only [r_X3_addSigns_0, r_X3_addSigns_1, r_X3_addSigns_4, r_X3_addSigns_5, r_X3_addSigns_6, r_X3_addSigns_10, r_X3_addSigns_11, r_X3_addSigns_14, r_X3_addSigns_15, r_X3_addSigns_16, r_X3_addSigns_17, r_X3_addSigns_19, r_X3_addSigns_20, r_X3_addSigns_23, r_X3_addSigns_26, r_X3_addSigns_29, r_X3_addSigns_32, sS, sN, and_true]
  exact key (0, σ) ⟨by dsimp only; omega, XF_rf _ _ _ _, by simpa using hx⟩
theorem XF_t {t : Nat} {σ σ' : xS} {T : sT} (ht : t ≤ 20) (hC : XC σ T) (hf : XF [t] [t + 1] [] σ σ') : XC σ' T := XC_f hC hf (fun k hk => by simp at hk; subst hk; exact XC_24 hC (by omega)) (fun k hk => by simp at hk; omega)
theorem q_addCell {t : Nat} (ht : t ≤ 20) {T : sT} : ∀ (n d c lv : Nat) (σ : xS) (L : List Int32), n ≤ d → n ≤ 13 → XC σ T → wf T n c → TXT σ t L → L.length + (tx T n c).length ≤ 120 → lv + n ≤ 40 → P_X3_addCell (d + 1) [.inr (some t), .inr (some c), .inl (nI lv)] σ 0 0 (mN (fun σ' => XF [t] [t + 1] [] σ σ' ∧ TXT σ' t (L ++ tx T n c))) := by
  intro n
  induction n with
  | zero =>
    intro d c lv σ L hnd hn hC hw hx hl hlv
    obtain ⟨fi, fr, g, a1, -⟩ := id hx
    refine e_X3_addCell d (nI lv) (some c) t σ 0 0 _ _ a1 rfl ?_
    obtain ⟨v, hv⟩ := Option.ne_none_iff_exists'.mp (wf_nn hw)
    obtain ⟨h24, o, o1, o2, o3, o4⟩ := hC c v hv
    simp only [r_X3_addCell_0, r_X3_addCell_1, r_X3_addCell_4, r_X3_addCell_5, r_X3_addCell_7, r_X3_addCell_10, r_X3_addCell_11, r_X3_addCell_12, r_X3_addCell_15, r_X3_addCell_16, r_X3_addCell_19, r_X3_addCell_20, r_X3_addCell_21, r_X3_addCell_24, r_X3_addCell_25, r_X3_addCell_26, r_X3_addCell_27, r_X3_addCell_30, r_X3_addCell_31, r_X3_addCell_32, r_X3_addCell_35, r_X3_addCell_36, r_X3_addCell_37, r_X3_addCell_38, r_X3_addCell_41, r_X3_addCell_44, r_X3_addCell_45, r_X3_addCell_48, r_X3_addCell_49, r_X3_addCell_52, r_X3_addCell_53, r_X3_addCell_54, r_X3_addCell_57, r_X3_addCell_58, r_X3_addCell_61, r_X3_addCell_62, r_X3_addCell_65, r_X3_addCell_68, r_X3_addCell_71, r_X3_addCell_72, r_X3_addCell_73, r_X3_addCell_74, r_X3_addCell_75, r_X3_addCell_78, r_X3_addCell_81, sS, sN, true_and, nI_leI (show lv < 2 ^ 31 by omega) (show 40 < 2 ^ 31 by omega), xo o1, o2, o3, mN_e]
    refine ⟨fun _ => ?_, fun z => absurd (by omega) z⟩
    rcases wf_cases hw with ⟨tt, h, htt⟩ | ⟨q, h, hq⟩ | ⟨k, q, hk, -⟩
    · rw [hv] at h; cases h
      obtain ⟨k1, k2, k3, k4, k5, p, g', k6, k7, k8, k9⟩ := o4
      rw [k1, tx_leaf hv]
      refine ⟨fun _ => ⟨fun _ => ?_, fun z => absurd (by decide) z⟩, fun z => absurd (by decide) z⟩
      rw [tx_leaf hv] at hl
      have := q_addSigns ht hv htt.1 (f := 0) (m := tt.length) (by omega) hC hx (by omega)
      rw [List.drop_zero, List.take_length] at this
      rw [tx_leaf hv]
      exact ⟨_, this, fun s' hs => hs⟩
    · rw [hv] at h; cases h
      obtain ⟨k1, k2, k3, k4, k5⟩ := o4
      obtain ⟨tb, q1, q2, q3, q4, q5⟩ := id hq
      rw [k1, k2, k5, tx_slice hv, oks_len hq]
      rw [tx_slice hv, oks_len hq] at hl
      refine ⟨fun _ => ⟨fun z => absurd rfl z, fun _ => ?_⟩, fun z => absurd (by decide) z⟩
      have := q_addSigns ht q1 q2.1 (f := q.2.1) (m := q.2.2) (by omega) hC hx (by omega)
      have hlf : lfT T q.1 = tb := by simp only [lfT, q1]
      rw [tx_slice hv, hlf]
      exact ⟨_, this, fun s' hs => hs⟩
    · cases hk
  | succ n ih =>
    intro d c lv σ L hnd hn hC hw hx hl hlv
    obtain ⟨fi, fr, g, a1, -⟩ := id hx
    refine e_X3_addCell d (nI lv) (some c) t σ 0 0 _ _ a1 rfl ?_
    obtain ⟨v, hv⟩ := Option.ne_none_iff_exists'.mp (wf_nn hw)
    obtain ⟨h24, o, o1, o2, o3, o4⟩ := hC c v hv
    simp only [r_X3_addCell_0, r_X3_addCell_1, r_X3_addCell_4, r_X3_addCell_5, r_X3_addCell_7, r_X3_addCell_10, r_X3_addCell_11, r_X3_addCell_12, r_X3_addCell_15, r_X3_addCell_16, r_X3_addCell_19, r_X3_addCell_20, r_X3_addCell_21, r_X3_addCell_24, r_X3_addCell_25, r_X3_addCell_26, r_X3_addCell_27, r_X3_addCell_31, r_X3_addCell_32, r_X3_addCell_35, r_X3_addCell_36, r_X3_addCell_37, r_X3_addCell_38, r_X3_addCell_41, r_X3_addCell_44, r_X3_addCell_45, r_X3_addCell_48, r_X3_addCell_49, r_X3_addCell_52, r_X3_addCell_53, r_X3_addCell_54, r_X3_addCell_57, r_X3_addCell_58, r_X3_addCell_61, r_X3_addCell_62, r_X3_addCell_65, r_X3_addCell_68, r_X3_addCell_71, r_X3_addCell_72, r_X3_addCell_73, r_X3_addCell_74, r_X3_addCell_75, r_X3_addCell_78, r_X3_addCell_81, sS, sN, true_and, nI_leI (show lv < 2 ^ 31 by omega) (show 40 < 2 ^ 31 by omega), xo o1, o2, o3, mN_e, nI_add]
    refine ⟨fun _ => ?_, fun z => absurd (by omega) z⟩
    rcases wf_cases hw with ⟨tt, h, htt⟩ | ⟨q, h, hq⟩ | ⟨k, q, hk, h, h1, h2, h3, h4, h5⟩
    · rw [hv] at h; cases h
      obtain ⟨k1, k2, k3, k4, k5, p, g', k6, k7, k8, k9⟩ := o4
      rw [k1, tx_leaf hv]
      refine ⟨fun _ => ⟨fun _ => ?_, fun z => absurd (by decide) z⟩, fun z => absurd (by decide) z⟩
      rw [tx_leaf hv] at hl
      have := q_addSigns ht hv htt.1 (f := 0) (m := tt.length) (by omega) hC hx (by omega)
      rw [List.drop_zero, List.take_length] at this
      rw [tx_leaf hv]
      exact ⟨_, this, fun s' hs => hs⟩
    · rw [hv] at h; cases h
      obtain ⟨k1, k2, k3, k4, k5⟩ := o4
      obtain ⟨tb, q1, q2, q3, q4, q5⟩ := id hq
      rw [k1, k2, k5, tx_slice hv, oks_len hq]
      rw [tx_slice hv, oks_len hq] at hl
      refine ⟨fun _ => ⟨fun z => absurd rfl z, fun _ => ?_⟩, fun z => absurd (by decide) z⟩
      have := q_addSigns ht q1 q2.1 (f := q.2.1) (m := q.2.2) (by omega) hC hx (by omega)
      have hlf : lfT T q.1 = tb := by simp only [lfT, q1]
      rw [tx_slice hv, hlf]
      exact ⟨_, this, fun s' hs => hs⟩
    · cases hk
      rw [hv] at h; cases h
      obtain ⟨k1, k2, k3, k4⟩ := o4
      rw [k1]
      refine ⟨fun z => absurd rfl z, fun _ => ?_⟩
      rw [tx_join hv, List.length_append] at hl
      rw [k2]
      cases d with
      | zero => omega
      | succ d =>
        refine ⟨_, ih d q.1 (lv + 1) σ L (by omega) (by omega) hC h1 hx (by omega) (by omega), ?_⟩
        rintro s1 ⟨g1, g2⟩
        have hC1 := XF_t ht hC g1
        obtain ⟨-, o', p1, p2, p3, p4⟩ := hC1 c _ hv
        rw [r_X3_addCell_30]
        simp only [r_X3_addCell_0, r_X3_addCell_1, r_X3_addCell_4, r_X3_addCell_5, r_X3_addCell_7, r_X3_addCell_10, r_X3_addCell_11, r_X3_addCell_12, r_X3_addCell_15, r_X3_addCell_16, r_X3_addCell_19, r_X3_addCell_20, r_X3_addCell_21, r_X3_addCell_24, r_X3_addCell_25, r_X3_addCell_26, r_X3_addCell_27, r_X3_addCell_31, r_X3_addCell_32, r_X3_addCell_35, r_X3_addCell_36, r_X3_addCell_37, r_X3_addCell_38, r_X3_addCell_41, r_X3_addCell_44, r_X3_addCell_45, r_X3_addCell_48, r_X3_addCell_49, r_X3_addCell_52, r_X3_addCell_53, r_X3_addCell_54, r_X3_addCell_57, r_X3_addCell_58, r_X3_addCell_61, r_X3_addCell_62, r_X3_addCell_65, r_X3_addCell_68, r_X3_addCell_71, r_X3_addCell_72, r_X3_addCell_73, r_X3_addCell_74, r_X3_addCell_75, r_X3_addCell_78, r_X3_addCell_81, xo p1, p2, true_and, p4.2.2.1, nI_add, mN_e]
        refine ⟨_, ih d q.2 (lv + 1) s1 (L ++ tx T n q.1) (by omega) (by omega) hC1 h2 g2 (by rw [List.length_append]; omega) (by omega), ?_⟩
        rintro s2 ⟨f1, f2⟩
        refine ⟨XF_same g1 f1, ?_⟩
        rw [tx_join hv, ← List.append_assoc]
        exact f2
theorem q_read {t : Nat} (ht : t ≤ 20) {T : sT} {c : Nat} {σ : xS} {L : List Int32} (hC : XC σ T) (hw : wf T 13 c) (hx : TXT σ t L) : P_X3_read [.inr (some t), .inr (some c)] σ 0 0 (mN (fun σ' => XF [t] [t + 1] [] σ σ' ∧ TXT σ' t (tx T 13 c))) := by
  obtain ⟨fi, fr, g, a1, a2, a3, a4, a5, a6⟩ := id hx
  refine e_X3_read (some c) t σ 0 0 _ _ a1 rfl ?_
  simp only [r_X3_read_0, r_X3_read_1, r_X3_read_2, r_X3_read_5, r_X3_read_6, r_X3_read_7, r_X3_read_8, r_X3_read_11, xo a1, true_and, mN_e]
  have hX : XF [t] [t + 1] [] σ (va_up σ.1 t (some (3, upd fi 1 (nI 0), fr)), σ.2) := XF_o (XF_rf _ _ _ _) (Or.inl (by simp))
  refine ⟨_, q_addCell ht 13 15 c 0 _ [] (by omega) (by omega) (XF_t ht hC hX) hw ⟨upd fi 1 (nI 0), fr, g, va_up_self _ _ _, a2, pk_us, a4, AP_nil _, by simp⟩ (by have := (wf_okt 13 c hw).1; simpa using this) (by omega), ?_⟩
  rintro s' ⟨h1, h2⟩
  exact ⟨XF_same hX h1, by simpa using h2⟩
theorem q_readBoth {t : Nat} (ht : t ≤ 20) {T : sT} {c d : Nat} {σ : xS} {L : List Int32} (hC : XC σ T) (hw : wf T 13 c) (hw2 : wf T 13 d) (hl : (tx T 13 c).length + (tx T 13 d).length ≤ 120) (hx : TXT σ t L) : P_X3_readBoth [.inr (some t), .inr (some c), .inr (some d)] σ 0 0 (mN (fun σ' => XF [t] [t + 1] [] σ σ' ∧ TXT σ' t (tx T 13 c ++ tx T 13 d))) := by
  obtain ⟨fi, fr, g, a1, a2, a3, a4, a5, a6⟩ := id hx
  refine e_X3_readBoth (some c) (some d) t σ 0 0 _ _ a1 rfl ?_
  simp only [r_X3_readBoth_0, r_X3_readBoth_1, r_X3_readBoth_2, r_X3_readBoth_5, r_X3_readBoth_6, r_X3_readBoth_7, r_X3_readBoth_8, r_X3_readBoth_11, r_X3_readBoth_12, r_X3_readBoth_13, r_X3_readBoth_14, r_X3_readBoth_17, xo a1, true_and, mN_e]
  have hX : XF [t] [t + 1] [] σ (va_up σ.1 t (some (3, upd fi 1 (nI 0), fr)), σ.2) := XF_o (XF_rf _ _ _ _) (Or.inl (by simp))
  refine ⟨_, q_addCell ht 13 15 c 0 _ [] (by omega) (by omega) (XF_t ht hC hX) hw ⟨upd fi 1 (nI 0), fr, g, va_up_self _ _ _, a2, pk_us, a4, AP_nil _, by simp⟩ (by have := (wf_okt 13 c hw).1; simpa using this) (by omega), ?_⟩
  rintro s' ⟨h1, h2⟩
  rw [List.nil_append] at h2
  have h3 := XF_same hX h1
  refine ⟨_, q_addCell ht 13 15 d 0 _ _ (by omega) (by omega) (XF_t ht hC h3) hw2 h2 hl (by omega), ?_⟩
  rintro s2 ⟨g1, g2⟩
  exact ⟨XF_same h3 g1, g2⟩
theorem q_readPart {t : Nat} (ht : t ≤ 20) {T : sT} {b f m : Nat} {tb : List Int32} (hb : T b = some (.inl tb)) (hl : tb.length ≤ 120) (hfm : f + m ≤ tb.length) {σ : xS} {L : List Int32} (hC : XC σ T) (hx : TXT σ t L) : P_X3_readPart [.inr (some t), .inr (some b), .inl (nI f), .inl (nI m)] σ 0 0 (mN (fun σ' => XF [t] [t + 1] [] σ σ' ∧ TXT σ' t ((tb.drop f).take m))) := by
  obtain ⟨fi, fr, g, a1, a2, a3, a4, a5, a6⟩ := id hx
  refine e_X3_readPart (nI f) (nI m) (some b) t σ 0 0 _ _ a1 rfl ?_
  simp only [r_X3_readPart_0, r_X3_readPart_1, r_X3_readPart_2, r_X3_readPart_5, r_X3_readPart_6, r_X3_readPart_7, r_X3_readPart_8, r_X3_readPart_9, r_X3_readPart_12, xo a1, true_and, mN_e]
  have hX : XF [t] [t + 1] [] σ (va_up σ.1 t (some (3, upd fi 1 (nI 0), fr)), σ.2) := XF_o (XF_rf _ _ _ _) (Or.inl (by simp))
  refine ⟨_, q_addSigns ht hb hl hfm (L := []) (XF_t ht hC hX) ⟨upd fi 1 (nI 0), fr, g, va_up_self _ _ _, a2, pk_us, a4, AP_nil _, by simp⟩ (by simp only [List.length_nil]; omega), ?_⟩
  rintro s' ⟨h1, h2⟩
  exact ⟨XF_same hX h1, by simpa using h2⟩
theorem q_depthOf {T : sT} {σ : xS} (hC : XC σ T) : ∀ (n d c lv : Nat), n ≤ d → n ≤ 13 → wf T n c → lv + n ≤ 40 → P_X0_depthOf (d + 1) [.inr (some c), .inl (nI lv)] σ 0 0 (mI (fun r σ' => σ' = σ ∧ r = nI (dep T n c))) := by
  intro n
  induction n with
  | zero =>
    intro d c lv hnd hn hw hlv
    refine e_X0_depthOf d (nI lv) (some c) σ 0 0 _ ?_
    obtain ⟨v, hv⟩ := Option.ne_none_iff_exists'.mp (wf_nn hw)
    obtain ⟨h24, o, o1, o2, o3, o4⟩ := hC c v hv
    simp only [r_X0_depthOf_0, r_X0_depthOf_1, r_X0_depthOf_4, r_X0_depthOf_5, r_X0_depthOf_8, r_X0_depthOf_9, r_X0_depthOf_12, r_X0_depthOf_13, r_X0_depthOf_15, r_X0_depthOf_18, r_X0_depthOf_19, r_X0_depthOf_20, r_X0_depthOf_21, r_X0_depthOf_22, r_X0_depthOf_25, r_X0_depthOf_26, r_X0_depthOf_27, r_X0_depthOf_28, r_X0_depthOf_31, r_X0_depthOf_32, r_X0_depthOf_35, r_X0_depthOf_36, r_X0_depthOf_37, r_X0_depthOf_38, r_X0_depthOf_41, r_X0_depthOf_44, r_X0_depthOf_45, sS, sN, true_and, xo o1, o2, mI_e, dep]
    have hk : ¬ o.2.1 0 = nI 1 := by
      rcases wf_cases hw with ⟨tt, h, htt⟩ | ⟨q, h, hq⟩ | ⟨k, q, hk, -⟩
      · rw [hv] at h; cases h; rw [o4.1]; decide
      · rw [hv] at h; cases h; rw [o4.1]; decide
      · cases hk
    exact ⟨fun _ => trivial, fun z => absurd (Classical.not_not.mp z) hk⟩
  | succ n ih =>
    intro d c lv hnd hn hw hlv
    refine e_X0_depthOf d (nI lv) (some c) σ 0 0 _ ?_
    obtain ⟨v, hv⟩ := Option.ne_none_iff_exists'.mp (wf_nn hw)
    obtain ⟨h24, o, o1, o2, o3, o4⟩ := hC c v hv
    simp only [r_X0_depthOf_0, r_X0_depthOf_1, r_X0_depthOf_4, r_X0_depthOf_5, r_X0_depthOf_8, r_X0_depthOf_9, r_X0_depthOf_12, r_X0_depthOf_13, r_X0_depthOf_15, r_X0_depthOf_18, r_X0_depthOf_19, r_X0_depthOf_20, r_X0_depthOf_21, r_X0_depthOf_22, r_X0_depthOf_25, r_X0_depthOf_26, r_X0_depthOf_27, r_X0_depthOf_28, r_X0_depthOf_32, r_X0_depthOf_35, r_X0_depthOf_36, r_X0_depthOf_37, r_X0_depthOf_38, r_X0_depthOf_41, r_X0_depthOf_44, r_X0_depthOf_45, sS, sN, true_and, xo o1, o2, mI_e, nI_leI (show lv < 2 ^ 31 by omega) (show 40 < 2 ^ 31 by omega), nI_add]
    rcases wf_cases hw with ⟨tt, h, htt⟩ | ⟨q, h, hq⟩ | ⟨k, q, hk, h, h1, h2, h3, h4, h5⟩
    · rw [hv] at h; cases h
      rw [o4.1, dep_leaf hv]
      exact ⟨fun _ => rfl, fun z => absurd (by decide) z⟩
    · rw [hv] at h; cases h
      rw [o4.1, dep_slice hv]
      exact ⟨fun _ => rfl, fun z => absurd (by decide) z⟩
    · cases hk
      rw [hv] at h; cases h
      rw [o4.1, o4.2.1]
      refine ⟨fun z => absurd rfl z, fun _ => ⟨fun _ => ?_, fun z => absurd (by omega) z⟩⟩
      cases d with
      | zero => omega
      | succ d =>
        refine ⟨_, ih d q.1 (lv + 1) (by omega) (by omega) h1 (by omega), ?_⟩
        rintro r s1 ⟨hs, rfl⟩
        subst hs
        rw [r_X0_depthOf_31]
        simp only [r_X0_depthOf_0, r_X0_depthOf_1, r_X0_depthOf_4, r_X0_depthOf_5, r_X0_depthOf_8, r_X0_depthOf_9, r_X0_depthOf_12, r_X0_depthOf_13, r_X0_depthOf_15, r_X0_depthOf_18, r_X0_depthOf_19, r_X0_depthOf_20, r_X0_depthOf_21, r_X0_depthOf_22, r_X0_depthOf_25, r_X0_depthOf_26, r_X0_depthOf_27, r_X0_depthOf_28, r_X0_depthOf_32, r_X0_depthOf_35, r_X0_depthOf_36, r_X0_depthOf_37, r_X0_depthOf_38, r_X0_depthOf_41, r_X0_depthOf_44, r_X0_depthOf_45, xo o1, o2, true_and, o4.2.2.1, nI_add, mI_e]
        refine ⟨_, ih d q.2 (lv + 1) (by omega) (by omega) h2 (by omega), ?_⟩
        rintro r s2 ⟨hs, rfl⟩
        subst hs
        have d1 := wf_dep (T := T) n q.1
        have d2 := wf_dep (T := T) n q.2
        refine ⟨fun r σ' => σ' = s2 ∧ r = nI (max (dep T n q.1) (dep T n q.2)), ⟨rfl, rfl, _, _, rfl, _, rfl, rfl, ?_⟩, ?_⟩
        · by_cases hlt : nI (dep T n q.1) < nI (dep T n q.2)
          · rw [if_pos hlt]
            rw [nI_ltI (by omega) (by omega)] at hlt
            congr 1; omega
          · rw [if_neg hlt]
            rw [nI_ltI (by omega) (by omega)] at hlt
            congr 1; omega
        · rintro r s3 ⟨hs, rfl⟩
          subst hs
          rw [dep_join hv, nI_add]
          exact ⟨rfl, rfl⟩
theorem q_depth {T : sT} {σ : xS} (hC : XC σ T) {c : Nat} (hw : wf T 13 c) : P_X0_depth [.inr (some c)] σ 0 0 (mI (fun r σ' => σ' = σ ∧ r = nI (dep T 13 c))) := by
  obtain ⟨v, hv⟩ := Option.ne_none_iff_exists'.mp (wf_nn hw)
  obtain ⟨h24, o, o1, o2, o3, o4⟩ := hC c v hv
  refine e_X0_depth c σ 0 0 _ _ o1 o2 ?_
  simp only [r_X0_depth_0, r_X0_depth_1, r_X0_depth_2, r_X0_depth_5, mI_e]
  exact ⟨_, q_depthOf hC 13 15 c 0 (by omega) (by omega) hw (by omega), fun r s' hr => hr⟩
