/-! ===== the reference: rule, say, copy, image, restore ===== -/
def A_image (sl : List Nat) (im : Nat → Option (List Nat)) (k r : Int32) (im' : Nat → Option (List Nat)) : Prop := (¬ (nI 0 ≤ k ∧ k ≤ nI 1) → r = Int32.ofInt (-2) ∧ im' = im) ∧ ∀ j, j < 2 → k = nI j → r = nI 1 ∧ im' = fun i => if i = j then some sl else im i
def A_restore (sl : List Nat) (im : Nat → Option (List Nat)) (k r : Int32) (sl' : List Nat) : Prop := (¬ (nI 0 ≤ k ∧ k ≤ nI 1) → r = Int32.ofInt (-2) ∧ sl' = sl) ∧ ∀ j, j < 2 → k = nI j → (im j = none → r = Int32.ofInt (-3) ∧ sl' = sl) ∧ ∀ l, im j = some l → r = nI 1 ∧ sl' = l
theorem nI_rng {n : Int32} {a b : Nat} (hb : b < 2 ^ 31) (h : nI a ≤ n ∧ n ≤ nI b) (ha : a < 2 ^ 31) : ∃ k, n = nI k ∧ a ≤ k ∧ k ≤ b := by
  obtain ⟨h1, h2⟩ := h
  have p := Int32.le_iff_toInt_le.mp h1
  rw [nI_toInt ha] at p
  obtain ⟨j, hj, rfl⟩ := nI_of (x := n) (fun z => by
    have c := Int32.lt_iff_toInt_lt.mp z
    have d : (0 : Int32).toInt = 0 := by decide
    omega)
  rw [nI_leI ha hj] at h1
  rw [nI_leI hj hb] at h2
  exact ⟨j, rfl, h1, h2⟩
theorem nI_rng' {k a b : Nat} (hb : b < 2 ^ 31) (ha : a ≤ k) (hk : k ≤ b) : nI a ≤ nI k ∧ nI k ≤ nI b := ⟨(nI_leI (by omega) (by omega)).mpr ha, (nI_leI (by omega) hb).mpr hk⟩
section
variable {T : sT} {ι : Nat → Nat} {μ : rf_M} {B sp e : Nat} {sl : List Nat} {im : Nat → Option (List Nat)} {en nu : List Nat} {ev : Nat} {dr : List Int32} {sm dp lo : Nat}
theorem MS_rule (h : MS T ι μ B sp e sl im en nu ev dr sm dp lo) {μ' : rf_M} (hc : CH [18, 19, 20] μ μ') {sm' dp' lo' : Nat} (h1 : μ'.1 18 = nI sm') (h2 : μ'.1 19 = nI dp') (h3 : μ'.1 20 = nI lo') (h4 : sm' ≤ 32 ∧ 1 ≤ dp' ∧ dp' ≤ 12 ∧ 1 ≤ lo' ∧ lo' ≤ 8) : MS T ι μ' B sp e sl im en nu ev dr sm' dp' lo' := by
  obtain ⟨a1, a2, a3, a4, a5, a6, ⟨a7, a8, a9, a10⟩, -, -⟩ := h
  have g := hc
  exact ⟨RR_ch a1 hc (by decide), RO_ch a2 hc (by decide), a3, a4, by rw [(g 13 (by decide)).2]; exact a5, by rw [(g 15 (by decide)).1]; exact a6, ⟨a7, by rw [(g 17 (by decide)).1]; exact a8, by rw [(g 16 (by decide)).2]; exact a9, a10⟩, ⟨h1, h2, h3⟩, h4⟩
theorem k_rule (h : MS T ι μ B sp e sl im en nu ev dr sm dp lo) (w n : Int32) : P_rule [.inr (some 39), .inl w, .inl n] μ 0 0 (mI (fun r μ' => ∃ sm' dp' lo', A_rule sm dp lo w n r sm' dp' lo' ∧ MS T ι μ' B sp e sl im en nu ev dr sm' dp' lo')) := by
  refine e_rule w n μ _ ?_
  obtain ⟨⟨q11, q12, q13⟩, q14⟩ := h.2.2.2.2.2.2.2
  have same : ¬ ((w = nI 0 ∧ nI 0 ≤ n ∧ n ≤ nI 32) ∨ (w = nI 1 ∧ nI 1 ≤ n ∧ n ≤ nI 12) ∨ (w = nI 2 ∧ nI 1 ≤ n ∧ n ≤ nI 8)) → ∃ sm' dp' lo', A_rule sm dp lo w n (Int32.ofInt (-2)) sm' dp' lo' ∧ MS T ι μ B sp e sl im en nu ev dr sm' dp' lo' := fun hb => ⟨sm, dp, lo, Or.inr (Or.inr (Or.inr ⟨hb, rfl, rfl, rfl, rfl⟩)), h⟩
  simp only [r_rule_0, r_rule_1, r_rule_2, r_rule_3, r_rule_6, r_rule_9, r_rule_10, r_rule_11, r_rule_14, r_rule_15, r_rule_18, r_rule_19, r_rule_20, r_rule_23, r_rule_25, r_rule_28, r_rule_29, r_rule_30, r_rule_33, r_rule_35, r_rule_38, r_rule_40, r_rule_43, r_rule_46, r_rule_48, r_rule_49, r_rule_50, r_rule_53, r_rule_54, r_rule_57, r_rule_60, r_rule_61, r_rule_62, r_rule_65, r_rule_66, r_rule_69, r_rule_72, r_rule_73, r_rule_76, r_rule_77, r_rule_78, r_rule_79, r_rule_82, r_rule_83, r_rule_86, r_rule_87, r_rule_90, r_rule_93, r_rule_94, r_rule_95, r_rule_96, r_rule_99, r_rule_100, r_rule_103, r_rule_104, r_rule_107, r_rule_110, r_rule_111, r_rule_112, r_rule_113, r_rule_116, r_rule_117, r_rule_120, r_rule_121, r_rule_124, r_rule_127, r_rule_128, mI_e]
  refine ⟨_, k_in μ w _ _, ?_⟩
  rintro r s1 ⟨hs, hr⟩
  subst hs
  subst hr
  by_cases hwn : ¬ (nI 0 ≤ w ∧ w ≤ nI 2)
  · rw [if_neg hwn]
    refine ⟨fun _ => same ?_, fun z => absurd rfl z⟩
    rintro (⟨rfl, -⟩ | ⟨rfl, -⟩ | ⟨rfl, -⟩) <;> exact hwn (by decide)
  rw [if_pos (Classical.not_not.mp hwn)]
  refine ⟨fun z => absurd z (by decide), fun _ => ?_⟩
  obtain ⟨k, rfl, k1, k2⟩ := nI_rng (by omega) (Classical.not_not.mp hwn) (by omega)
  have hk : k = 0 ∨ k = 1 ∨ k = 2 := by omega
  have c10 : ¬ (nI 1 = (0 : Int32)) := by decide
  have c20 : ¬ (nI 2 = (0 : Int32)) := by decide
  have c01 : ¬ ((0 : Int32) = nI 1) := by decide
  have c02 : ¬ ((0 : Int32) = nI 2) := by decide
  have c12 : ¬ (nI 1 = nI 2) := by decide
  have c21 : ¬ (nI 2 = nI 1) := by decide
  rcases hk with rfl | rfl | rfl
  · simp only [nI_0, not_true_eq_false, false_implies, not_false_eq_true, forall_const, true_and, and_true, c01, c02]
    refine ⟨_, k_in s1 n _ _, ?_⟩
    rintro r s2 ⟨hs, hr⟩
    subst hs
    subst hr
    by_cases hn : nI 0 ≤ n ∧ n ≤ nI 32
    · rw [← nI_0, if_pos hn]
      obtain ⟨m, rfl, m1, m2⟩ := nI_rng (by omega) hn (by omega)
      refine ⟨fun _ => ⟨m, dp, lo, Or.inl ⟨m, rfl, rfl, m2, q11, rfl, rfl, rfl⟩, ?_⟩, fun z => absurd (by decide) z⟩
      refine MS_rule h (CH_i2 (CH_i2 (CH_i2 (CH_rf _ _) (by decide)) (by decide)) (by decide)) ?_ ?_ ?_ ⟨m2, q14.2⟩
      · simp [upd]
      · simp [upd, q12]
      · simp [upd, q13]
    · rw [← nI_0, if_neg hn]
      refine ⟨fun z => absurd rfl z, fun _ => same ?_⟩
      rintro (⟨-, z⟩ | ⟨z, -⟩ | ⟨z, -⟩)
      · exact hn z
      · exact absurd z (by decide)
      · exact absurd z (by decide)
  · simp only [c10, not_true_eq_false, false_implies, not_false_eq_true, forall_const, true_and, and_true, c12]
    refine ⟨_, k_in s1 n _ _, ?_⟩
    rintro r s2 ⟨hs, hr⟩
    subst hs
    subst hr
    by_cases hn : nI 1 ≤ n ∧ n ≤ nI 12
    · rw [if_pos hn]
      obtain ⟨m, rfl, m1, m2⟩ := nI_rng (by omega) hn (by omega)
      refine ⟨fun _ => ⟨sm, m, lo, Or.inr (Or.inl ⟨m, rfl, rfl, m1, m2, q12, rfl, rfl, rfl⟩), ?_⟩, fun z => absurd (by decide) z⟩
      refine MS_rule h (CH_i2 (CH_i2 (CH_i2 (CH_rf _ _) (by decide)) (by decide)) (by decide)) ?_ ?_ ?_ ⟨q14.1, m1, m2, q14.2.2.2⟩
      · simp [upd, q11]
      · simp [upd]
      · simp [upd, q13]
    · rw [if_neg hn]
      refine ⟨fun z => absurd rfl z, fun _ => same ?_⟩
      rintro (⟨z, -⟩ | ⟨-, z⟩ | ⟨z, -⟩)
      · exact absurd z (by decide)
      · exact hn z
      · exact absurd z (by decide)
  · simp only [c20, not_true_eq_false, false_implies, not_false_eq_true, forall_const, true_and, and_true, c21]
    refine ⟨_, k_in s1 n _ _, ?_⟩
    rintro r s2 ⟨hs, hr⟩
    subst hs
    subst hr
    by_cases hn : nI 1 ≤ n ∧ n ≤ nI 8
    · rw [if_pos hn]
      obtain ⟨m, rfl, m1, m2⟩ := nI_rng (by omega) hn (by omega)
      refine ⟨fun _ => ⟨sm, dp, m, Or.inr (Or.inr (Or.inl ⟨m, rfl, rfl, m1, m2, q13, rfl, rfl, rfl⟩)), ?_⟩, fun z => absurd (by decide) z⟩
      refine MS_rule h (CH_i2 (CH_i2 (CH_i2 (CH_rf _ _) (by decide)) (by decide)) (by decide)) ?_ ?_ ?_ ⟨q14.1, q14.2.1, q14.2.2.1, m1, m2⟩
      · simp [upd, q11]
      · simp [upd, q12]
      · simp [upd]
    · rw [if_neg hn]
      refine ⟨fun z => absurd rfl z, fun _ => same ?_⟩
      rintro (⟨z, -⟩ | ⟨z, -⟩ | ⟨-, z⟩)
      · exact absurd z (by decide)
      · exact absurd z (by decide)
      · exact hn z
theorem k_say (h : MS T ι μ B sp e sl im en nu ev dr sm dp lo) (x : Int32) : P_say [.inr (some 39), .inl x] μ 0 0 (mI (fun r μ' => ∃ dr', A_say dr x r dr' ∧ MS T ι μ' B sp e sl im en nu ev dr' sm dp lo)) := by
  refine e_say x μ _ ?_
  obtain ⟨a1, a2, a3, a4, a5, a6, ⟨a7, a8, a9, a10⟩, a11, a12⟩ := id h
  simp only [r_say_0, r_say_1, r_say_2, r_say_5, r_say_8, r_say_11, r_say_13, r_say_14, r_say_15, r_say_18, r_say_20, r_say_23, r_say_25, r_say_26, r_say_27, r_say_30, r_say_31, r_say_34, r_say_35, r_say_36, r_say_37, r_say_38, r_say_41, r_say_42, r_say_43, r_say_46, r_say_47, r_say_50, mI_e, a8]
  refine ⟨_, k_in μ x _ _, ?_⟩
  rintro r s1 ⟨hs, hr⟩
  subst hs
  subst hr
  by_cases hx : nI 1 ≤ x ∧ x ≤ nI 9999
  · rw [if_pos hx]
    refine ⟨fun _ => ?_, fun z => absurd (by decide) z⟩
    simp only [a8, nI_eq (show dr.length < 2 ^ 31 by omega) (show 40 < 2 ^ 31 by omega), nI_clamp (show dr.length < 2 ^ 31 by omega), vp_in_i (show dr.length < 2 ^ 31 by omega), nI_add]
    refine ⟨fun hl => ⟨by omega, dr ++ [x], ⟨fun z => absurd hx z, fun _ => ⟨fun z => absurd z hl, fun _ => ⟨?_, rfl⟩⟩⟩, ?_⟩, fun hl => ⟨dr, ⟨fun z => absurd hx z, fun _ => ⟨fun _ => ⟨rfl, rfl⟩, fun z => absurd (Classical.not_not.mp hl) z⟩⟩, h⟩⟩
    · exact pk_us
    · have hc : CH [16, 17] s1 (upd s1.1 17 (nI (dr.length + 1)), rf_up s1.2 16 dr.length x) := CH_i2 (CH_a2 (CH_rf _ _) (by decide)) (by decide)
      refine ⟨RR_ch a1 hc (by decide), RO_ch a2 hc (by decide), a3, a4, a5, ?_, ⟨?_, ?_, ?_, ?_⟩, ?_, a12⟩
      · rw [(hc 15 (by decide)).1]; exact a6
      · rw [List.length_append, List.length_singleton]; omega
      · rw [List.length_append, List.length_singleton]
        show upd s1.1 17 (nI (dr.length + 1)) 17 = _
        exact pk_us
      · show AP (rf_up s1.2 16 dr.length x 16) _
        rw [rf_up_s]
        exact AP_push a9 x
      · intro y hy
        rcases List.mem_append.mp hy with hy | hy
        · exact a10 y hy
        · cases List.mem_singleton.mp hy
          obtain ⟨m, rfl, m1, m2⟩ := nI_rng (by omega) hx (by omega)
          exact (nI_zlt m (by omega)).mpr (by omega)
      · rw [(hc 18 (by decide)).1, (hc 19 (by decide)).1, (hc 20 (by decide)).1]; exact a11
  · rw [if_neg hx]
    exact ⟨fun z => absurd rfl z, fun _ => ⟨dr, ⟨fun _ => ⟨rfl, rfl⟩, fun z => absurd z hx⟩, h⟩⟩
theorem k_copy (h : MS T ι μ B sp e sl im en nu ev dr sm dp lo) (t f : Int32) : P_copy [.inr (some 39), .inl t, .inl f] μ 0 0 (mI (fun r μ' => ∃ sl', A_copy T sl t f r sl' ∧ MS T ι μ' B sp e sl' im en nu ev dr sm dp lo)) := by
  refine e_copy t f μ _ ?_
  simp only [r_copy_0, r_copy_1, r_copy_4, r_copy_7, r_copy_8, r_copy_11, r_copy_14, r_copy_15, r_copy_16, r_copy_17, r_copy_20, r_copy_21, r_copy_22, r_copy_25, r_copy_26, r_copy_27, r_copy_28, r_copy_29, r_copy_32, r_copy_33, r_copy_36, r_copy_37, r_copy_38, r_copy_39]
  refine ⟨_, k_isSlot μ t, ?_⟩
  rintro r s' ⟨hs, hr⟩
  subst hs
  subst hr
  rcases ix_8 h.2.1.1.1 t with ⟨h1, h2⟩ | ⟨j, c, rfl, hj, hc, h1, h2⟩
  · rw [if_neg h2]
    simp only [mI_e]
    exact ⟨fun _ => ⟨sl, ⟨fun _ => ⟨rfl, rfl⟩, fun c z => absurd h1 z⟩, h⟩, fun z => absurd (by decide) z⟩
  rw [if_pos h2]
  refine ⟨fun z => absurd z (by decide), fun _ => ?_⟩
  refine ⟨_, k_isSlot s' f, ?_⟩
  rintro r s1 ⟨hs, hr⟩
  subst hs
  subst hr
  rcases ix_8 h.2.1.1.1 f with ⟨i1, i2⟩ | ⟨k, d, rfl, hk, hd, i1, i2⟩
  · rw [if_neg i2]
    simp only [mI_e]
    exact ⟨fun z => absurd (by decide) z, fun _ => ⟨sl, ⟨fun _ => ⟨rfl, rfl⟩, fun c _ z => by rw [i1] at z; cases z⟩, h⟩⟩
  rw [if_pos i2]
  refine ⟨fun _ => ?_, fun z => absurd (by decide) z⟩
  obtain ⟨v1, v2, v3, v4, v5, v6, v7⟩ := MS_sl h hd
  have e9 : rf_up s1.2 9 j (nI (ι d)) 9 j = nI (ι d) := by rw [rf_up_s, pk_us]
  have e3 : rf_up s1.2 9 j (nI (ι d)) 3 = s1.2 3 := rf_up_n (by decide)
  simp only [nI_clamp (show j < 2 ^ 31 by omega), vp_in_i (show j < 2 ^ 31 by omega), hj, true_and, nI_clamp (show k < 2 ^ 31 by omega), vp_in_i (show k < 2 ^ 31 by omega), hk, v5, e9, e3, nI_clamp (show ι d < 2 ^ 31 by omega), vp_in_i (show ι d < 2 ^ 31 by omega), v4, v6, mI_e]
  refine ⟨sl.set j d, ⟨fun z => z.elim (fun z => by rw [h1] at z; cases z) (fun z => by rw [i1] at z; cases z), fun c' _ hc' => ?_⟩, MS_slot h hj v1⟩
  rw [i1] at hc'; cases hc'
  rw [nI_clamp (by omega)]
  exact ⟨rfl, rfl⟩
theorem k_image (h : MS T ι μ B sp e sl im en nu ev dr sm dp lo) (k : Int32) : P_image [.inr (some 39), .inl k] μ 0 0 (mI (fun r μ' => ∃ im', A_image sl im k r im' ∧ MS T ι μ' B sp e sl im' en nu ev dr sm dp lo)) := by
  refine e_image k μ _ ?_
  simp only [r_image_0, r_image_1, r_image_2, r_image_3, r_image_6, r_image_9, r_image_11, r_image_12, r_image_13, r_image_15, r_image_17, r_image_20, r_image_21, r_image_24, r_image_26, r_image_27, r_image_28, r_image_29, r_image_30, r_image_31, r_image_34, r_image_35, r_image_36, r_image_37, r_image_40, r_image_43, r_image_44, r_image_47, r_image_48, r_image_49, r_image_50, r_image_51, mI_e]
  refine ⟨_, k_in μ k _ _, ?_⟩
  rintro r s1 ⟨hs, hr⟩
  subst hs
  subst hr
  by_cases hk : ¬ (nI 0 ≤ k ∧ k ≤ nI 1)
  · rw [if_neg hk]
    refine ⟨fun z => absurd rfl z, fun _ => ⟨im, ⟨fun _ => ⟨rfl, rfl⟩, fun j hj z => absurd ?_ hk⟩, h⟩⟩
    rw [z]
    exact nI_rng' (by omega) (by omega) (by omega)
  have hk := Classical.not_not.mp hk
  rw [if_pos hk]
  refine ⟨fun _ => ?_, fun z => absurd (by decide) z⟩
  obtain ⟨j, rfl, -, j2⟩ := nI_rng (by omega) hk (by omega)
  generalize hret : mI (fun r μ' => ∃ im', A_image sl im (nI j) r im' ∧ MS T ι μ' B sp e sl im' en nu ev dr sm dp lo) = ret
  have key : ∀ y : Nat × rf_M, (y.1 ≤ 8 ∧ CH [10] s1 y.2 ∧ (∀ i, i < y.1 → y.2.2 10 (8 * j + i) = s1.2 9 i) ∧ (∀ i, (i < 8 * j ∨ 8 * j + 8 ≤ i) → y.2.2 10 i = s1.2 10 i)) → W_image ret (14, [some (.inr (some 39)), some (.inl (nI j)), some (.inl (nI y.1))], [], y.2, 0, 0) := by
    refine mm_loop _ _ (fun y => 8 - y.1) ?_
    rintro ⟨i, μ1⟩ ⟨g0, g1, g2, g3⟩ ih
    dsimp only at g0 g1 g2 g3 ⊢
    have e9 : μ1.2 9 = s1.2 9 := (g1 9 (by decide)).2
    rw [r_image_14]
    simp only [r_image_0, r_image_1, r_image_2, r_image_3, r_image_6, r_image_9, r_image_11, r_image_12, r_image_13, r_image_15, r_image_17, r_image_20, r_image_21, r_image_24, r_image_26, r_image_27, r_image_28, r_image_29, r_image_30, r_image_31, r_image_34, r_image_35, r_image_36, r_image_37, r_image_40, r_image_43, r_image_44, r_image_47, r_image_48, r_image_49, r_image_50, r_image_51, nI_leI (show 8 < 2 ^ 31 by omega) (show i < 2 ^ 31 by omega), nI_mul, nI_add, nI_clamp (show i < 2 ^ 31 by omega), vp_in_i (show i < 2 ^ 31 by omega), nI_clamp (show 8 * j + i < 2 ^ 31 by omega), vp_in_i (show 8 * j + i < 2 ^ 31 by omega), e9, nI_clamp (show j < 2 ^ 31 by omega), vp_in_i (show j < 2 ^ 31 by omega)]
    refine ⟨fun hle => ⟨by omega, Or.inr rfl, ?_⟩, fun hle => ⟨by omega, by omega, ?_⟩⟩
    · have : i = 8 := by omega
      subst this
      subst hret
      rw [mI_e]
      refine ⟨fun i => if i = j then some sl else im i, ⟨fun z => absurd hk z, fun j' hj' z => ?_⟩, ?_⟩
      · rw [nI_eq (by omega) (by omega)] at z
        subst z
        exact ⟨rfl, rfl⟩
      · obtain ⟨a1, ⟨⟨o1, o2⟩, o3, o4⟩, a3, a4, a5, a6, a7, a8, a9⟩ := h
        have hc : CH [10, 11] s1 (μ1.1, rf_up μ1.2 11 j (nI 1)) := CH_a2 (CH_w g1 (by decide)) (by decide)
        have f := fun k hk => hc k hk
        refine ⟨RR_ch a1 hc (by decide), ⟨⟨o1, ?_⟩, ?_, ?_⟩, fun r hr => ?_, a4, ?_, ?_, ?_, ?_, a9⟩
        · rw [(f 9 (by decide)).2]; exact o2
        · intro k hk2
          show ((if k = j then some sl else im k) = none ∧ rf_up μ1.2 11 j (nI 1) 11 k = 0) ∨ (∃ l, (if k = j then some sl else im k) = some l ∧ rf_up μ1.2 11 j (nI 1) 11 k = 1 ∧ l.length = 8 ∧ ∀ (p x : Nat), l[p]? = some x → rf_up μ1.2 11 j (nI 1) 10 (8 * k + p) = nI (ι x))
          rw [rf_up_s, rf_up_n (show (10 : Nat) ≠ 11 by decide), (g1 11 (by decide)).2]
          by_cases hkj : k = j
          · subst hkj
            rw [if_pos rfl, pk_us]
            refine Or.inr ⟨sl, rfl, rfl, o1, fun p x hp => ?_⟩
            have hpl := (List.getElem?_eq_some_iff.mp hp).1
            rw [g2 p (by omega)]
            exact o2 p _ (by rw [List.getElem?_map, hp]; rfl)
          · rw [if_neg hkj, pk_un hkj]
            rcases o3 k hk2 with ⟨b1, b2⟩ | ⟨l, b1, b2, b3, b4⟩
            · exact Or.inl ⟨b1, b2⟩
            · refine Or.inr ⟨l, b1, b2, b3, fun p x hp => ?_⟩
              have hpl := (List.getElem?_eq_some_iff.mp hp).1
              rw [g3 _ (by omega)]
              exact b4 p x hp
        · rw [(f 14 (by decide)).1, (f 12 (by decide)).2]; exact o4
        · refine a3 r ?_
          simp only [rts, List.mem_append] at hr ⊢
          rcases hr with hr | hr | hr | hr
          · exact Or.inl hr
          · by_cases h0 : 0 = j
            · rw [if_pos h0] at hr; exact Or.inl hr
            · rw [if_neg h0] at hr; exact Or.inr (Or.inl hr)
          · by_cases h0 : 1 = j
            · rw [if_pos h0] at hr; exact Or.inl hr
            · rw [if_neg h0] at hr; exact Or.inr (Or.inr (Or.inl hr))
          · exact Or.inr (Or.inr (Or.inr hr))
        · rw [(f 13 (by decide)).2]; exact a5
        · rw [(f 15 (by decide)).1]; exact a6
        · rw [(f 17 (by decide)).1, (f 16 (by decide)).2]; exact a7
        · rw [(f 18 (by decide)).1, (f 19 (by decide)).1, (f 20 (by decide)).1]; exact a8
    · refine ih (i + 1, (μ1.1, rf_up μ1.2 10 (8 * j + i) (s1.2 9 i))) ⟨by dsimp only; omega, CH_a2 g1 (by decide), fun p hp => ?_, fun p hp => ?_⟩ (by dsimp only; omega)
      · dsimp only at hp ⊢
        rw [rf_up_s]
        by_cases hpi : p = i
        · subst hpi; exact pk_us
        · rw [pk_un (by omega)]; exact g2 p (by omega)
      · dsimp only at hp ⊢
        rw [rf_up_s, pk_un (by omega)]; exact g3 p hp
  exact key (0, s1) ⟨by dsimp only; omega, CH_rf _ _, fun i hi => by dsimp only at hi; omega, fun i _ => rfl⟩
theorem k_restore (h : MS T ι μ B sp e sl im en nu ev dr sm dp lo) (k : Int32) : P_restore [.inr (some 39), .inl k] μ 0 0 (mI (fun r μ' => ∃ sl', A_restore sl im k r sl' ∧ MS T ι μ' B sp e sl' im en nu ev dr sm dp lo)) := by
  refine e_restore k μ _ ?_
  simp only [r_restore_0, r_restore_1, r_restore_2, r_restore_3, r_restore_6, r_restore_9, r_restore_11, r_restore_12, r_restore_13, r_restore_16, r_restore_17, r_restore_18, r_restore_21, r_restore_23, r_restore_24, r_restore_25, r_restore_27, r_restore_29, r_restore_32, r_restore_33, r_restore_36, r_restore_37, r_restore_38, r_restore_41, r_restore_43, r_restore_44, r_restore_45, r_restore_46, r_restore_47, r_restore_48, r_restore_49, r_restore_52, r_restore_55, r_restore_56, mI_e]
  refine ⟨_, k_in μ k _ _, ?_⟩
  rintro r s1 ⟨hs, hr⟩
  subst hs
  subst hr
  by_cases hk : ¬ (nI 0 ≤ k ∧ k ≤ nI 1)
  · rw [if_neg hk]
    refine ⟨fun z => absurd rfl z, fun _ => ⟨sl, ⟨fun _ => ⟨rfl, rfl⟩, fun j hj z => absurd ?_ hk⟩, h⟩⟩
    rw [z]
    exact nI_rng' (by omega) (by omega) (by omega)
  have hk := Classical.not_not.mp hk
  rw [if_pos hk]
  refine ⟨fun _ => ?_, fun z => absurd (by decide) z⟩
  obtain ⟨j, rfl, -, j2⟩ := nI_rng (by omega) hk (by omega)
  simp only [nI_clamp (show j < 2 ^ 31 by omega), vp_in_i (show j < 2 ^ 31 by omega), show j < 2 by omega, true_and]
  obtain ⟨a1, ⟨⟨o1, o2⟩, o3, o4⟩, a3, a4, a5, a6, a7, a8, a9⟩ := id h
  rcases o3 j (by omega) with ⟨b1, b2⟩ | ⟨l, b1, b2, b3, b4⟩
  · rw [b2]
    refine ⟨fun z => absurd rfl z, fun _ => ⟨sl, ⟨fun z => absurd hk z, fun j' hj' z => ?_⟩, h⟩⟩
    rw [nI_eq (by omega) (by omega)] at z
    subst z
    exact ⟨fun _ => ⟨rfl, rfl⟩, fun l hl => by rw [b1] at hl; cases hl⟩
  · rw [b2]
    refine ⟨fun _ => ?_, fun z => absurd (by decide) z⟩
    generalize hret : mI (fun r μ' => ∃ sl', A_restore sl im (nI j) r sl' ∧ MS T ι μ' B sp e sl' im en nu ev dr sm dp lo) = ret
    have key : ∀ y : Nat × rf_M, (y.1 ≤ 8 ∧ CH [9] s1 y.2 ∧ (∀ i, i < y.1 → y.2.2 9 i = s1.2 10 (8 * j + i))) → W_restore ret (26, [some (.inr (some 39)), some (.inl (nI j)), some (.inl (nI y.1))], [], y.2, 0, 0) := by
      refine mm_loop _ _ (fun y => 8 - y.1) ?_
      rintro ⟨i, μ1⟩ ⟨g0, g1, g2⟩ ih
      dsimp only at g0 g1 g2 ⊢
      have e10 : μ1.2 10 = s1.2 10 := (g1 10 (by decide)).2
      rw [r_restore_26]
      simp only [r_restore_0, r_restore_1, r_restore_2, r_restore_3, r_restore_6, r_restore_9, r_restore_11, r_restore_12, r_restore_13, r_restore_16, r_restore_17, r_restore_18, r_restore_21, r_restore_23, r_restore_24, r_restore_25, r_restore_27, r_restore_29, r_restore_32, r_restore_33, r_restore_36, r_restore_37, r_restore_38, r_restore_41, r_restore_43, r_restore_44, r_restore_45, r_restore_46, r_restore_47, r_restore_48, r_restore_49, r_restore_52, r_restore_55, r_restore_56, nI_leI (show 8 < 2 ^ 31 by omega) (show i < 2 ^ 31 by omega), nI_mul, nI_add, nI_clamp (show i < 2 ^ 31 by omega), vp_in_i (show i < 2 ^ 31 by omega), nI_clamp (show 8 * j + i < 2 ^ 31 by omega), vp_in_i (show 8 * j + i < 2 ^ 31 by omega), e10]
      refine ⟨fun hle => ?_, fun hle => ⟨by omega, by omega, ?_⟩⟩
      · have : i = 8 := by omega
        subst this
        subst hret
        rw [mI_e]
        refine ⟨l, ⟨fun z => absurd hk z, fun j' hj' z => ?_⟩, ?_⟩
        · rw [nI_eq (by omega) (by omega)] at z
          subst z
          exact ⟨fun z => (by rw [b1] at z; cases z), fun l' hl => by rw [b1] at hl; cases hl; exact ⟨rfl, rfl⟩⟩
        · have f := fun k hk => g1 k hk
          refine ⟨RR_ch a1 g1 (by decide), ⟨⟨b3, ?_⟩, ?_, ?_⟩, fun r hr => ?_, a4, ?_, ?_, ?_, ?_, a9⟩
          · intro p x hp
            rw [List.getElem?_map] at hp
            cases hlp : l[p]? with
            | none => rw [hlp] at hp; cases hp
            | some y =>
              rw [hlp] at hp; cases hp
              have hpl := (List.getElem?_eq_some_iff.mp hlp).1
              rw [g2 p (by omega)]
              exact b4 p y hlp
          · rw [(f 11 (by decide)).2, (f 10 (by decide)).2]; exact o3
          · rw [(f 14 (by decide)).1, (f 12 (by decide)).2]; exact o4
          · refine a3 r ?_
            simp only [rts, List.mem_append] at hr
            rcases hr with hr | hr
            · exact rts_im (by omega) b1 hr
            · simp only [rts, List.mem_append]; exact Or.inr hr
          · rw [(f 13 (by decide)).2]; exact a5
          · rw [(f 15 (by decide)).1]; exact a6
          · rw [(f 17 (by decide)).1, (f 16 (by decide)).2]; exact a7
          · rw [(f 18 (by decide)).1, (f 19 (by decide)).1, (f 20 (by decide)).1]; exact a8
      · refine ih (i + 1, (μ1.1, rf_up μ1.2 9 i (s1.2 10 (8 * j + i)))) ⟨by dsimp only; omega, CH_a2 g1 (by decide), fun p hp => ?_⟩ (by dsimp only; omega)
        dsimp only at hp ⊢
        rw [rf_up_s]
        by_cases hpi : p = i
        · subst hpi; exact pk_us
        · rw [pk_un (by omega)]; exact g2 p (by omega)
    exact key (0, s1) ⟨by dsimp only; omega, CH_rf _ _, fun i hi => by dsimp only at hi; omega⟩
end
