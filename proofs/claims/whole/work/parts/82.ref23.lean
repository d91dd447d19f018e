/-! ===== the reference: intern, sweep ===== -/
def A_intern (T : sT) (sl en nu : List Nat) (ev : Nat) (s r : Int32) (sl' en' nu' : List Nat) (ev' : Nat) : Prop := (ix sl s = none → r = Int32.ofInt (-1) ∧ sl' = sl ∧ en' = en ∧ nu' = nu ∧ ev' = ev) ∧ ∀ c, ix sl s = some c →
  (∀ i, fe T (tx T 13 c) en = some i → ∃ d m, en[i]? = some d ∧ nu[i]? = some m ∧ r = nI m ∧ sl' = sl.set s.toNatClampNeg d ∧ en' = en ∧ nu' = nu ∧ ev' = ev) ∧
  (fe T (tx T 13 c) en = none → (en.length = 24 → r = Int32.ofInt (-4) ∧ sl' = sl ∧ en' = en ∧ nu' = nu ∧ ev' = ev) ∧ (en.length ≠ 24 → r = nI ev ∧ sl' = sl ∧ en' = en ++ [c] ∧ nu' = nu ++ [ev] ∧ ev' = ev + 1))
def swp (T : sT) (sl en nu : List Nat) : List (Nat × Nat) := (en.zip nu).filter (fun q => decide (q.1 ∈ sl.flatMap (rl T 13)))
def A_sweep (T : sT) (sl en nu : List Nat) (r : Int32) (en' nu' : List Nat) : Prop := r = nI (en.length - en'.length) ∧ en' = (swp T sl en nu).map (fun q => q.1) ∧ nu' = (swp T sl en nu).map (fun q => q.2)
section
variable {T : sT} {ι : Nat → Nat} {μ : rf_M} {B sp e : Nat} {sl : List Nat} {im : Nat → Option (List Nat)} {en nu : List Nat} {ev : Nat} {dr : List Int32} {sm dp lo : Nat}
theorem MS_en (h : MS T ι μ B sp e sl im en nu ev dr sm dp lo) {j c : Nat} (hj : en[j]? = some c) : wf T 12 c ∧ wf T 13 c ∧ T c ≠ none ∧ ι c < 20480 ∧ μ.2 12 j = nI (ι c) ∧ j < 24 := by
  have hm : c ∈ rts sl im en := by simp [rts, List.mem_of_getElem? hj]
  have hw := h.2.2.1 c hm
  obtain ⟨v, hv⟩ := Option.ne_none_iff_exists'.mp (wf_nn hw)
  obtain ⟨k1, -, -⟩ := h.1.1 c v hv
  have hl := (List.getElem?_eq_some_iff.mp hj).1
  have := h.2.1.2.2.1
  exact ⟨hw, (wf_up 12 c hw).1, wf_nn hw, k1, h.2.1.2.2.2.2 j _ (by rw [List.getElem?_map, hj]; rfl), by omega⟩
set_option maxHeartbeats 1000000 in
theorem k_intern (h : MS T ι μ B sp e sl im en nu ev dr sm dp lo) (s : Int32) : P_intern [.inr (some 39), .inl s] μ 0 0 (mI (fun r μ' => ∃ sl' en' nu' ev', A_intern T sl en nu ev s r sl' en' nu' ev' ∧ MS T ι μ' B sp e sl' im en' nu' ev' dr sm dp lo)) := by
  refine e_intern s μ _ ?_
  simp only [r_intern_0, r_intern_1, r_intern_4, r_intern_7, r_intern_8, r_intern_9, r_intern_10, r_intern_12, r_intern_13, r_intern_16, r_intern_19, r_intern_20, r_intern_21, r_intern_24, r_intern_25, r_intern_26, r_intern_27, r_intern_30, r_intern_31, r_intern_32, r_intern_35, r_intern_38, r_intern_39, r_intern_42, r_intern_43, r_intern_44, r_intern_47, r_intern_48, r_intern_49, r_intern_50, r_intern_51, r_intern_54, r_intern_55, r_intern_56, r_intern_57, r_intern_60, r_intern_63, r_intern_64, r_intern_67, r_intern_69, r_intern_72, r_intern_74, r_intern_75, r_intern_76, r_intern_79, r_intern_80, r_intern_83, r_intern_84, r_intern_87, r_intern_88, r_intern_89, r_intern_90, r_intern_91, r_intern_94, r_intern_95, r_intern_98, r_intern_99, r_intern_102, r_intern_103, r_intern_104, r_intern_105, r_intern_108, r_intern_109, r_intern_110, r_intern_113, r_intern_114, r_intern_115, r_intern_118, r_intern_119, r_intern_120, r_intern_123, r_intern_124, r_intern_127, r_intern_128, r_intern_129]
  refine ⟨_, k_isSlot μ s, ?_⟩
  rintro r s' ⟨hs, hr⟩
  subst hs
  subst hr
  rcases ix_8 h.2.1.1.1 s with ⟨h1, h2⟩ | ⟨j, c, rfl, hj, hc, h1, h2⟩
  · rw [if_neg h2]
    simp only [mI_e]
    exact ⟨fun z => absurd (by decide) z, fun _ => ⟨sl, en, nu, ev, ⟨fun _ => ⟨rfl, rfl, rfl, rfl, rfl⟩, fun c hc => by rw [h1] at hc; cases hc⟩, h⟩⟩
  rw [if_pos h2]
  refine ⟨fun _ => ?_, fun z => absurd (by decide) z⟩
  generalize hret : mI (fun r μ' => ∃ sl' en' nu' ev', A_intern T sl en nu ev (nI j) r sl' en' nu' ev' ∧ MS T ι μ' B sp e sl' im en' nu' ev' dr sm dp lo) = ret
  have key : ∀ y : Nat × rf_M, (y.1 ≤ en.length ∧ MS T ι y.2 B sp e sl im en nu ev dr sm dp lo ∧ (∀ i x, i < y.1 → en[i]? = some x → tx T 13 x ≠ tx T 13 c)) → W_intern ret (11, [some (.inr (some 39)), some (.inl (nI j)), some (.inl (nI y.1))], [], y.2, 0, 0) := by
    refine mm_loop _ _ (fun y => en.length - y.1) ?_
    rintro ⟨i, μ1⟩ ⟨g0, g1, g2⟩ ih
    dsimp only at g0 g1 g2 ⊢
    obtain ⟨⟨o1, o2⟩, o3, c1, c2, c3⟩ := id g1.2.1
    obtain ⟨w1, w2, w3, w4, w5, w6, w7⟩ := MS_sl g1 hc
    rw [r_intern_11]
    simp only [r_intern_0, r_intern_1, r_intern_4, r_intern_7, r_intern_8, r_intern_9, r_intern_10, r_intern_12, r_intern_13, r_intern_16, r_intern_19, r_intern_20, r_intern_21, r_intern_24, r_intern_25, r_intern_26, r_intern_27, r_intern_30, r_intern_31, r_intern_32, r_intern_35, r_intern_38, r_intern_39, r_intern_42, r_intern_43, r_intern_44, r_intern_47, r_intern_48, r_intern_49, r_intern_50, r_intern_51, r_intern_54, r_intern_55, r_intern_56, r_intern_57, r_intern_60, r_intern_63, r_intern_64, r_intern_67, r_intern_69, r_intern_72, r_intern_74, r_intern_75, r_intern_76, r_intern_79, r_intern_80, r_intern_83, r_intern_84, r_intern_87, r_intern_88, r_intern_89, r_intern_90, r_intern_91, r_intern_94, r_intern_95, r_intern_98, r_intern_99, r_intern_102, r_intern_103, r_intern_104, r_intern_105, r_intern_108, r_intern_109, r_intern_110, r_intern_113, r_intern_114, r_intern_115, r_intern_118, r_intern_119, r_intern_120, r_intern_123, r_intern_124, r_intern_127, r_intern_128, r_intern_129, c2, nI_leI (show en.length < 2 ^ 31 by omega) (show i < 2 ^ 31 by omega), nI_clamp (show j < 2 ^ 31 by omega), vp_in_i (show j < 2 ^ 31 by omega), hj, true_and, w5, nI_eq (show en.length < 2 ^ 31 by omega) (show 24 < 2 ^ 31 by omega)]
    refine ⟨fun hle => ?_, fun hle => ?_⟩
    · have hi : i = en.length := by omega
      subst hi
      have hfe : fe T (tx T 13 c) en = none := fe_none en (fun x hx => by
        obtain ⟨k, hk, hkx⟩ := List.getElem_of_mem hx
        exact g2 k x hk (by rw [← hkx]; exact List.getElem?_eq_getElem hk))
      subst hret
      simp only [mI_e]
      refine ⟨fun hl => ?_, fun hl => ?_⟩
      · have e14 : upd (upd μ1.1 14 (nI (en.length + 1))) 15 (nI (ev + 1)) 15 = nI (ev + 1) := pk_us
        have e15 : upd μ1.1 14 (nI (en.length + 1)) 15 = nI ev := by rw [pk_un (by decide)]; exact g1.2.2.2.2.2.1
        simp only [c2, nI_clamp (show en.length < 2 ^ 31 by omega), vp_in_i (show en.length < 2 ^ 31 by omega), nI_add, e15, e14, g1.2.2.2.2.2.1]
        refine ⟨by omega, by omega, sl, en ++ [c], nu ++ [ev], ev + 1, ⟨fun z => (by rw [h1] at z; cases z), fun c' hc' => ?_⟩, ?_⟩
        · rw [h1] at hc'; cases hc'
          refine ⟨fun i hi => (by rw [hfe] at hi; cases hi), fun _ => ⟨fun z => absurd z hl, fun _ => ⟨?_, rfl, rfl, rfl, rfl⟩⟩⟩
          rw [pk_sub (by omega)]; rfl
        · obtain ⟨a1, -, a3, a4, a5, a6, a7, a8, a9⟩ := g1
          have hcg : CH [12, 13, 14, 15] μ1 (upd (upd μ1.1 14 (nI (en.length + 1))) 15 (nI (ev + 1)), rf_up (rf_up μ1.2 12 en.length (nI (ι c))) 13 en.length (nI ev)) := CH_i2 (CH_i2 (CH_a2 (CH_a2 (CH_rf _ _) (by decide)) (by decide)) (by decide)) (by decide)
          refine ⟨RR_ch a1 hcg (by decide), ⟨⟨o1, ?_⟩, ?_, ?_, ?_, ?_⟩, fun r hr => ?_, ?_, ?_, e14, ?_, ?_, a9⟩
          · rw [(hcg 9 (by decide)).2]; exact o2
          · rw [(hcg 11 (by decide)).2, (hcg 10 (by decide)).2]; exact o3
          · rw [List.length_append, List.length_singleton]; omega
          · rw [List.length_append, List.length_singleton]
            show upd (upd μ1.1 14 (nI (en.length + 1))) 15 (nI (ev + 1)) 14 = _
            rw [pk_un (by decide), pk_us]
          · show AP (rf_up (rf_up μ1.2 12 en.length (nI (ι c))) 13 en.length (nI ev) 12) _
            rw [rf_up_n (by decide), rf_up_s, List.map_append]
            have := AP_push c3 (nI (ι c))
            rw [List.length_map] at this
            exact this
          · simp only [rts, List.mem_append, List.mem_singleton] at hr
            rcases hr with hr | hr | hr | hr | hr
            · exact a3 r (by simp [rts, hr])
            · exact a3 r (by simp [rts, hr])
            · exact a3 r (by simp [rts, hr])
            · exact a3 r (by simp [rts, hr])
            · subst hr; exact w1
          · rw [List.length_append, List.length_append, a4]; rfl
          · show AP (rf_up (rf_up μ1.2 12 en.length (nI (ι c))) 13 en.length (nI ev) 13) _
            rw [rf_up_s, rf_up_n (by decide), List.map_append]
            have := AP_push a5 (nI ev)
            rw [List.length_map, a4] at this
            exact this
          · rw [(hcg 17 (by decide)).1, (hcg 16 (by decide)).2]; exact a7
          · rw [(hcg 18 (by decide)).1, (hcg 19 (by decide)).1, (hcg 20 (by decide)).1]; exact a8
      · refine ⟨sl, en, nu, ev, ⟨fun z => (by rw [h1] at z; cases z), fun c' hc' => ?_⟩, g1⟩
        rw [h1] at hc'; cases hc'
        exact ⟨fun i hi => (by rw [hfe] at hi; cases hi), fun _ => ⟨fun _ => ⟨rfl, rfl, rfl, rfl, rfl⟩, fun z => absurd (Classical.not_not.mp hl) z⟩⟩
    · obtain ⟨d, hd⟩ : ∃ d, en[i]? = some d := ⟨_, List.getElem?_eq_getElem (show i < en.length by omega)⟩
      obtain ⟨d1, d2, d3, d4, d5, d6⟩ := MS_en g1 hd
      simp only [nI_clamp (show i < 2 ^ 31 by omega), vp_in_i (show i < 2 ^ 31 by omega), d6, true_and, d5]
      refine ⟨_, k_areSame g1.1.1 g1.1.x w2 d2, ?_⟩
      rintro r s2 ⟨⟨p1, p2⟩, rfl⟩
      have hms : MS T ι s2 B sp e sl im en nu ev dr sm dp lo := MS_ch g1 p1 (by decide)
      by_cases ht : tx T 13 c = tx T 13 d
      · rw [if_pos ht]
        refine ⟨fun z => absurd z (by decide), fun _ => ?_⟩
        obtain ⟨m, hm⟩ : ∃ m, nu[i]? = some m := ⟨_, List.getElem?_eq_getElem (by rw [g1.2.2.2.1]; omega)⟩
        have e12 : s2.2 12 i = nI (ι d) := (MS_en hms hd).2.2.2.2.1
        have e13 : s2.2 13 i = nI m := hms.2.2.2.2.1 i _ (by rw [List.getElem?_map, hm]; rfl)
        have e13' : rf_up s2.2 9 j (nI (ι d)) 13 i = nI m := by rw [rf_up_n (by decide)]; exact e13
        simp only [e12, e13']
        subst hret
        rw [mI_e]
        refine ⟨sl.set j d, en, nu, ev, ⟨fun z => (by rw [h1] at z; cases z), fun c' hc' => ?_⟩, MS_slot hms hj d1⟩
        rw [h1] at hc'; cases hc'
        have hfe : fe T (tx T 13 c) en = some i := fe_some en i d hd ht.symm g2
        refine ⟨fun i' hi' => ?_, fun z => by rw [hfe] at z; cases z⟩
        rw [hfe] at hi'; cases hi'
        exact ⟨d, m, hd, hm, rfl, by rw [nI_clamp (by omega)], rfl, rfl, rfl⟩
      · rw [if_neg ht]
        refine ⟨fun _ => ?_, fun z => absurd rfl z⟩
        rw [nI_add]
        refine ih (i + 1, s2) ⟨by dsimp only; omega, hms, fun k x hk hx => ?_⟩ (by dsimp only; omega)
        by_cases hki : k = i
        · subst hki; rw [hd] at hx; cases hx; exact fun z => ht z.symm
        · exact g2 k x (by dsimp only at hk; omega) hx
  exact key (0, s') ⟨Nat.zero_le _, h, fun i x hi => by dsimp only at hi; omega⟩
theorem zip_at {en nu : List Nat} (hl : nu.length = en.length) {i a : Nat} (h : en[i]? = some a) : ∃ m, nu[i]? = some m ∧ (en.zip nu)[i]? = some (a, m) := by
  have hi := (List.getElem?_eq_some_iff.mp h).1
  refine ⟨_, List.getElem?_eq_getElem (by omega), ?_⟩
  rw [List.getElem?_zip_eq_some]
  exact ⟨h, List.getElem?_eq_getElem (by omega)⟩
set_option maxHeartbeats 1000000 in
theorem k_sweep (h : MS T ι μ B sp e sl im en nu ev dr sm dp lo) : P_sweep [.inr (some 39)] μ 0 0 (mI (fun r μ' => ∃ en' nu', A_sweep T sl en nu r en' nu' ∧ MS T ι μ' B sp e sl im en' nu' ev dr sm dp lo)) := by
  refine e_sweep μ _ ?_
  obtain ⟨a1, ⟨⟨o1, o2⟩, o3, c1, c2, c3⟩, a3, a4, a5, a6, a7, a8, a9⟩ := id h
  have hsl : ∀ r ∈ sl, T r ≠ none := fun r hr => wf_nn (h.2.2.1 r (by simp [rts, hr]))
  simp only [r_sweep_0, r_sweep_1, r_sweep_4, r_sweep_5, r_sweep_6, r_sweep_7, r_sweep_8, r_sweep_10, r_sweep_11, r_sweep_14, r_sweep_17, r_sweep_18, r_sweep_21, r_sweep_22, r_sweep_25, r_sweep_26, r_sweep_27, r_sweep_28, r_sweep_31, r_sweep_32, r_sweep_35, r_sweep_36, r_sweep_37, r_sweep_40, r_sweep_41, r_sweep_42, r_sweep_43, r_sweep_44, r_sweep_47, r_sweep_48, r_sweep_49, r_sweep_52, r_sweep_53, r_sweep_54, r_sweep_55, r_sweep_58, r_sweep_61, r_sweep_64, r_sweep_65, r_sweep_68, r_sweep_69, r_sweep_70, r_sweep_71, r_sweep_72, r_sweep_73, r_sweep_76, r_sweep_77]
  refine ⟨_, k_markHeld h.1.1 h.1.2.1 h.1.2.2.1 o1 o2 hsl, ?_⟩
  rintro r s1 ⟨V, v1, v2, v3, rfl, v5⟩
  generalize hret : mI (fun r μ' => ∃ en' nu', A_sweep T sl en nu r en' nu' ∧ MS T ι μ' B sp e sl im en' nu' ev dr sm dp lo) = ret
  generalize hp : (fun q : Nat × Nat => decide (q.1 ∈ sl.flatMap (rl T 13))) = p
  have hzl : (en.zip nu).length = en.length := by rw [List.length_zip]; omega
  have key : ∀ y : Nat × rf_M, (y.1 ≤ en.length ∧ CH [4, 12, 13, 22] μ y.2 ∧ MKS ι y.2 V ∧ AP (y.2.2 12) ((((en.zip nu).take y.1).filter p).map (fun q => nI (ι q.1))) ∧ AP (y.2.2 13) ((((en.zip nu).take y.1).filter p).map (fun q => nI q.2)) ∧ (∀ k, y.1 ≤ k → y.2.2 12 k = μ.2 12 k ∧ y.2.2 13 k = μ.2 13 k)) → W_sweep ret (9, [some (.inr (some 39)), some (.inl (nI (((en.zip nu).take y.1).filter p).length)), some (.inl (nI y.1))], [], y.2, 0, 0) := by
    refine mm_loop _ _ (fun y => en.length - y.1) ?_
    rintro ⟨i, μ1⟩ ⟨g0, g1, g2, g3, g4, g5⟩ ih
    dsimp only at g0 g1 g2 g3 g4 g5 ⊢
    have e14 : μ1.1 14 = nI en.length := by rw [(g1 14 (by decide)).1]; exact c2
    have hle1 : (((en.zip nu).take i).filter p).length ≤ i := by
      have := List.length_filter_le p ((en.zip nu).take i)
      rw [List.length_take] at this
      omega
    rw [r_sweep_9]
    simp only [r_sweep_0, r_sweep_1, r_sweep_4, r_sweep_5, r_sweep_6, r_sweep_7, r_sweep_8, r_sweep_10, r_sweep_11, r_sweep_14, r_sweep_17, r_sweep_18, r_sweep_21, r_sweep_22, r_sweep_25, r_sweep_26, r_sweep_27, r_sweep_28, r_sweep_31, r_sweep_32, r_sweep_35, r_sweep_36, r_sweep_37, r_sweep_40, r_sweep_41, r_sweep_42, r_sweep_43, r_sweep_44, r_sweep_47, r_sweep_48, r_sweep_49, r_sweep_52, r_sweep_53, r_sweep_54, r_sweep_55, r_sweep_58, r_sweep_61, r_sweep_64, r_sweep_65, r_sweep_68, r_sweep_69, r_sweep_70, r_sweep_71, r_sweep_72, r_sweep_73, r_sweep_76, r_sweep_77, e14, nI_leI (show en.length < 2 ^ 31 by omega) (show i < 2 ^ 31 by omega)]
    refine ⟨fun hle => ?_, fun hle => ?_⟩
    · have hi : i = en.length := by omega
      subst hi
      rw [List.take_of_length_le (by omega)] at g3 g4 hle1 ⊢
      subst hret
      rw [mI_e]
      have hsw : (en.zip nu).filter p = swp T sl en nu := by rw [← hp]; rfl
      rw [hsw] at g3 g4 hle1 ⊢
      refine ⟨(swp T sl en nu).map (fun q => q.1), (swp T sl en nu).map (fun q => q.2), ⟨?_, rfl, rfl⟩, ?_⟩
      · rw [pk_sub hle1, List.length_map]
      · have hcg : CH [4, 12, 13, 14, 22] μ (upd μ1.1 14 (nI (swp T sl en nu).length), μ1.2) := CH_i (CH_w g1 (by decide)) (by decide)
        refine ⟨RR_ch a1 hcg (by decide), ⟨⟨o1, ?_⟩, ?_, ?_, ?_, ?_⟩, fun r hr => ?_, ?_, ?_, ?_, ?_, ?_, a9⟩
        · rw [(hcg 9 (by decide)).2]; exact o2
        · rw [(hcg 11 (by decide)).2, (hcg 10 (by decide)).2]; exact o3
        · rw [List.length_map]; omega
        · rw [List.length_map]
          show upd μ1.1 14 (nI (swp T sl en nu).length) 14 = _
          exact pk_us
        · rw [List.map_map]; exact g3
        · simp only [rts, List.mem_append] at hr
          rcases hr with hr | hr | hr | hr
          · exact a3 r (by simp [rts, hr])
          · exact a3 r (by simp [rts, hr])
          · exact a3 r (by simp [rts, hr])
          · obtain ⟨q, hq, rfl⟩ := List.mem_map.mp hr
            have hq2 := (List.mem_filter.mp hq).1
            exact a3 q.1 (by simp [rts, (List.of_mem_zip hq2).1])
        · rw [List.length_map, List.length_map]
        · rw [List.map_map]; exact g4
        · rw [(hcg 15 (by decide)).1]; exact a6
        · rw [(hcg 17 (by decide)).1, (hcg 16 (by decide)).2]; exact a7
        · rw [(hcg 18 (by decide)).1, (hcg 19 (by decide)).1, (hcg 20 (by decide)).1]; exact a8
    · obtain ⟨d, hd⟩ : ∃ d, en[i]? = some d := ⟨_, List.getElem?_eq_getElem (show i < en.length by omega)⟩
      obtain ⟨d1, d2, d3, d4, d5, d6⟩ := MS_en h hd
      obtain ⟨m, hm, hz⟩ := zip_at a4 hd
      have e12 : μ1.2 12 i = nI (ι d) := by rw [(g5 i (Nat.le_refl _)).1]; exact d5
      have e13 : μ1.2 13 i = nI m := by rw [(g5 i (Nat.le_refl _)).2]; exact a5 i _ (by rw [List.getElem?_map, hm]; rfl)
      have e13' : ∀ (k : Nat) (v : Int32), rf_up μ1.2 12 k v 13 = μ1.2 13 := fun k v => rf_up_n (by decide)
      have htk : ((en.zip nu).take (i + 1)).filter p = ((en.zip nu).take i).filter p ++ (if p (d, m) then [(d, m)] else []) := by
        rw [List.take_add_one, hz, List.filter_append]
        simp only [Option.toList_some, List.filter_cons, List.filter_nil]
      have hpd : (p (d, m) = true) ↔ d ∈ V := by
        rw [← hp]
        simp only [decide_eq_true_eq]
        exact (v3 d).symm
      generalize hK : ((en.zip nu).take i).filter p = K at g3 g4 hle1 htk ⊢
      simp only [nI_clamp (show i < 2 ^ 31 by omega), vp_in_i (show i < 2 ^ 31 by omega), d6, true_and, e12, nI_clamp (show ι d < 2 ^ 31 by omega), vp_in_i (show ι d < 2 ^ 31 by omega), d4, MKS_in h.1.2.1 v1 g2 d3 d4, nI_clamp (show K.length < 2 ^ 31 by omega), vp_in_i (show K.length < 2 ^ 31 by omega), show K.length < 24 by omega, e13', e13, nI_add, Classical.not_not]
      refine ⟨fun hno => ?_, fun hin => ?_⟩
      · have hh := ih (i + 1, μ1) ⟨by dsimp only; omega, g1, g2, ?_, ?_, fun k hk => g5 k (by dsimp only at hk; omega)⟩ (by dsimp only; omega)
        · dsimp only at hh
          rw [htk, if_neg (fun z => hno (hpd.mp z)), List.append_nil] at hh
          exact hh
        · dsimp only
          rw [htk, if_neg (fun z => hno (hpd.mp z)), List.append_nil]; exact g3
        · dsimp only
          rw [htk, if_neg (fun z => hno (hpd.mp z)), List.append_nil]; exact g4
      · have hh := ih (i + 1, (μ1.1, rf_up (rf_up μ1.2 12 K.length (nI (ι d))) 13 K.length (nI m))) ⟨by dsimp only; omega, CH_a2 (CH_a2 g1 (by decide)) (by decide), MKS_ch g2 (by dsimp only; rw [rf_up_n (by decide), rf_up_n (by decide)]), ?_, ?_, fun k hk => ?_⟩ (by dsimp only; omega)
        · dsimp only at hh
          rw [htk, if_pos (hpd.mpr hin), List.length_append, List.length_singleton] at hh
          exact hh
        · dsimp only
          rw [htk, if_pos (hpd.mpr hin), rf_up_n (by decide), rf_up_s, List.map_append]
          have := AP_push g3 (nI (ι d))
          rw [List.length_map] at this
          exact this
        · dsimp only
          rw [htk, if_pos (hpd.mpr hin), rf_up_s, rf_up_n (by decide), List.map_append]
          have := AP_push g4 (nI m)
          rw [List.length_map] at this
          exact this
        · dsimp only at hk ⊢
          rw [rf_up_n (by decide), rf_up_s, rf_up_s, rf_up_n (by decide), pk_un (by omega), pk_un (by omega)]
          exact g5 k (by omega)
  have hh := key (0, s1) ⟨Nat.zero_le _, CH_w v5 (by decide), v2, by simp only [List.take_zero, List.filter_nil, List.map_nil]; exact AP_nil _, by simp only [List.take_zero, List.filter_nil, List.map_nil]; exact AP_nil _, fun k _ => by rw [(v5 12 (by decide)).2, (v5 13 (by decide)).2]; exact ⟨rfl, rfl⟩⟩
  exact hh
end
