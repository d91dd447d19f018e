/-! ===== the reference: piece, alike, entry, count ===== -/
section
variable {T : sT} {ι : Nat → Nat} {μ : rf_M} {B sp e : Nat} {sl : List Nat} {im : Nat → Option (List Nat)} {en nu : List Nat} {ev : Nat} {dr : List Int32} {sm dp lo : Nat}
theorem pc_i (h : RR T ι μ B sp e) {a b : Nat} (ha : T a ≠ none) (hb : T b ≠ none) : (nI (ι a) = nI (ι b)) ↔ a = b := by
  obtain ⟨v, hv⟩ := Option.ne_none_iff_exists'.mp ha
  obtain ⟨w, hw⟩ := Option.ne_none_iff_exists'.mp hb
  have h1 := (h.1 a v hv).1
  have h2 := (h.1 b w hw).1
  rw [nI_eq (by omega) (by omega)]
  exact ⟨h.2.1 a b ha hb, fun e => by rw [e]⟩
theorem nI_03 {w : Int32} (h : nI 0 ≤ w ∧ w ≤ nI 3) : w = nI 0 ∨ w = nI 1 ∨ w = nI 2 ∨ w = nI 3 := by
  obtain ⟨h1, h2⟩ := h
  have a := Int32.le_iff_toInt_le.mp h1
  have b := Int32.le_iff_toInt_le.mp h2
  rw [nI_toInt (by omega)] at a b
  obtain ⟨j, hj, rfl⟩ := nI_of (x := w) (fun z => by
    have c := Int32.lt_iff_toInt_lt.mp z
    have d : (0 : Int32).toInt = 0 := by decide
    omega)
  rw [nI_toInt hj] at b
  have : j = 0 ∨ j = 1 ∨ j = 2 ∨ j = 3 := by omega
  rcases this with rfl | rfl | rfl | rfl
  · exact Or.inl rfl
  · exact Or.inr (Or.inl rfl)
  · exact Or.inr (Or.inr (Or.inl rfl))
  · exact Or.inr (Or.inr (Or.inr rfl))
set_option maxHeartbeats 1000000 in
theorem k_piece (h : MS T ι μ B sp e sl im en nu ev dr sm dp lo) (s i w : Int32) : P_piece [.inr (some 39), .inl s, .inl i, .inl w] μ 0 0 (mI (fun r μ' => CH scr μ μ' ∧ A_piece T sl s i w r)) := by
  refine e_piece s i w μ _ ?_
  simp only [r_piece_0, r_piece_1, r_piece_4, r_piece_7, r_piece_8, r_piece_9, r_piece_10, r_piece_11, r_piece_12, r_piece_15, r_piece_18, r_piece_20, r_piece_21, r_piece_22, r_piece_23, r_piece_26, r_piece_27, r_piece_28, r_piece_31, r_piece_32, r_piece_33, r_piece_34, r_piece_35, r_piece_38, r_piece_39, r_piece_40, r_piece_43, r_piece_46, r_piece_48, r_piece_49, r_piece_50, r_piece_53, r_piece_54, r_piece_55, r_piece_58, r_piece_61, r_piece_63, r_piece_64, r_piece_65, r_piece_68, r_piece_69, r_piece_72, r_piece_73, r_piece_75, r_piece_76, r_piece_79, r_piece_82, r_piece_84, r_piece_85, r_piece_87, r_piece_90, r_piece_93, r_piece_97, r_piece_100, r_piece_101, r_piece_104, r_piece_106, r_piece_107, r_piece_110, r_piece_111, r_piece_112, r_piece_115, r_piece_117, r_piece_120, r_piece_121, r_piece_124, r_piece_126, r_piece_127, r_piece_130, r_piece_131, r_piece_134, r_piece_135, r_piece_136, r_piece_139, r_piece_140, r_piece_143, r_piece_145, r_piece_148, r_piece_149, r_piece_152, r_piece_154, r_piece_155, r_piece_158, r_piece_160, r_piece_161, r_piece_164, r_piece_166]
  refine ⟨_, k_isSlot μ s, ?_⟩
  rintro r s' ⟨hs, hr⟩
  subst hs
  subst hr
  rcases ix_8 h.2.1.1.1 s with ⟨h1, h2⟩ | ⟨j, c, rfl, hj, hc, h1, h2⟩
  · rw [if_neg h2]
    simp only [mI_e]
    exact ⟨fun z => absurd (by decide) z, fun _ => ⟨CH_rf _ _, ⟨fun _ => rfl, fun c hc => by rw [h1] at hc; cases hc⟩⟩⟩
  rw [if_pos h2]
  obtain ⟨w1, w2, w3, w4, w5, w6, w7⟩ := MS_sl h hc
  refine ⟨fun _ => ?_, fun z => absurd (by decide) z⟩
  have hA : ∀ {r : Int32}, ((¬ (nI 0 ≤ w ∧ w ≤ nI 3) → r = Int32.ofInt (-2)) ∧ ((nI 0 ≤ w ∧ w ≤ nI 3) → (ix (pcs T 13 c) i = none → r = Int32.ofInt (-6)) ∧ ∀ p, ix (pcs T 13 c) i = some p →
    (w = nI 0 → r = nI (tx T 13 p).length) ∧ (w = nI 1 → r = nI (match T p with | some (.inr (.inr q)) => q.2.1 | _ => 0)) ∧ (w = nI 2 → r = nI (match T p with | some (.inr (.inr q)) => (lfT T q.1).length | _ => (tx T 13 p).length)) ∧ (w = nI 3 → r = nI (fi (pcs T 13 c) p)))) → A_piece T sl (nI j) i w r := fun hr => ⟨fun z => (by rw [h1] at z; cases z), fun c' hc' => by rw [h1] at hc'; cases hc'; exact hr⟩
  refine ⟨_, k_in s' _ _ _, ?_⟩
  rintro r s1 ⟨hs, hr⟩
  subst hs
  subst hr
  by_cases hwn : ¬ (nI 0 ≤ w ∧ w ≤ nI 3)
  · have hw := hwn
    rw [if_neg hw]
    simp only [mI_e]
    exact ⟨fun z => absurd (by decide) z, fun _ => ⟨CH_rf _ _, hA ⟨fun _ => rfl, fun z => absurd z hw⟩⟩⟩
  have hw := Classical.not_not.mp hwn
  rw [if_pos hw]
  refine ⟨fun _ => ?_, fun z => absurd (by decide) z⟩
  simp only [nI_clamp (show j < 2 ^ 31 by omega), vp_in_i (show j < 2 ^ 31 by omega), hj, true_and, w5]
  refine ⟨_, k_layPieces h.1.1 w2, ?_⟩
  rintro r s2 ⟨rfl, g1, g2, g3⟩
  have l120 := pcs_120 w2
  have hPc := pcs_isPc 13 c w2
  have hms : MS T ι s2 B sp e sl im en nu ev dr sm dp lo := MS_ch h g1 (by decide)
  have hcs : CH scr s1 s2 := CH_w g1 (by decide)
  simp only [g2]
  refine ⟨_, k_in s2 _ _ _, ?_⟩
  rintro r s3 ⟨hs, hr⟩
  subst hs
  subst hr
  rcases in_len (pcs T 13 c) (by omega) i with ⟨p1, p2⟩ | ⟨k, p, rfl, hk, hp, p1, p2⟩
  · rw [if_neg p2]
    simp only [mI_e]
    exact ⟨fun z => absurd (by decide) z, fun _ => ⟨hcs, hA ⟨fun z => absurd hw z, fun _ => ⟨fun _ => rfl, fun p hp => by rw [p1] at hp; cases hp⟩⟩⟩⟩
  rw [if_pos p2]
  refine ⟨fun _ => ?_, fun z => absurd (by decide) z⟩
  have hpm := List.mem_of_getElem? hp
  have hpp := hPc p hpm
  have e23 : ∀ n x, (pcs T 13 c)[n]? = some x → s3.2 23 n = nI (ι x) := fun n x hx => g3 n _ (by rw [List.getElem?_map, hx]; rfl)
  have nn : ∀ x, x ∈ pcs T 13 c → T x ≠ none := fun x hx => wf_nn (isPc_wf (n := 13) (hPc x hx))
  have hpn := nn p hpm
  obtain ⟨v, hv⟩ := Option.ne_none_iff_exists'.mp hpn
  obtain ⟨k1, k2, k3⟩ := hms.1.1 p v hv
  simp only [nI_clamp (show k < 2 ^ 31 by omega), vp_in_i (show k < 2 ^ 31 by omega), show k < 240 by omega, true_and, e23 k p hp]
  have hB : ∀ {r : Int32}, ((w = nI 0 → r = nI (tx T 13 p).length) ∧ (w = nI 1 → r = nI (match T p with | some (.inr (.inr q)) => q.2.1 | _ => 0)) ∧ (w = nI 2 → r = nI (match T p with | some (.inr (.inr q)) => (lfT T q.1).length | _ => (tx T 13 p).length)) ∧ (w = nI 3 → r = nI (fi (pcs T 13 c) p))) → A_piece T sl (nI j) (nI k) w r := fun hr => hA ⟨fun z => absurd hw z, fun _ => ⟨fun z => (by rw [p1] at z; cases z), fun p' hp' => by rw [p1] at hp'; cases hp'; exact hr⟩⟩
  -- the end, with the first place known
  have last : ∀ (f : Nat), fi (pcs T 13 c) p = f → ∀ (sc : Int32), (sc = nI 1 ∧ (∃ q, v = .inr (.inr q)) ∨ sc = nI 0 ∧ (∀ q, v ≠ .inr (.inr q))) → W_piece (mI (fun r μ' => CH scr s1 μ' ∧ A_piece T sl (nI j) (nI k) w r)) (96, [some (.inr (some 39)), some (.inl (nI j)), some (.inl (nI k)), some (.inl w), some (.inl (nI (ι p))), some (.inl sc), some (.inl (nI f))], [], s3, 0, 0) := by
    intro f hf sc hsc
    rw [r_piece_96]
    simp only [r_piece_0, r_piece_1, r_piece_4, r_piece_7, r_piece_8, r_piece_9, r_piece_10, r_piece_11, r_piece_12, r_piece_15, r_piece_18, r_piece_20, r_piece_21, r_piece_22, r_piece_23, r_piece_26, r_piece_27, r_piece_28, r_piece_31, r_piece_32, r_piece_33, r_piece_34, r_piece_35, r_piece_38, r_piece_39, r_piece_40, r_piece_43, r_piece_46, r_piece_48, r_piece_49, r_piece_50, r_piece_53, r_piece_54, r_piece_55, r_piece_58, r_piece_61, r_piece_63, r_piece_64, r_piece_65, r_piece_68, r_piece_69, r_piece_72, r_piece_73, r_piece_75, r_piece_76, r_piece_79, r_piece_82, r_piece_84, r_piece_85, r_piece_87, r_piece_90, r_piece_93, r_piece_97, r_piece_100, r_piece_101, r_piece_104, r_piece_106, r_piece_107, r_piece_110, r_piece_111, r_piece_112, r_piece_115, r_piece_117, r_piece_120, r_piece_121, r_piece_124, r_piece_126, r_piece_127, r_piece_130, r_piece_131, r_piece_134, r_piece_135, r_piece_136, r_piece_139, r_piece_140, r_piece_143, r_piece_145, r_piece_148, r_piece_149, r_piece_152, r_piece_154, r_piece_155, r_piece_158, r_piece_160, r_piece_161, r_piece_164, r_piece_166, nI_clamp (show ι p < 2 ^ 31 by omega), vp_in_i (show ι p < 2 ^ 31 by omega), k1, true_and, k3, mI_e, ← nI_0]
    rcases nI_03 hw with rfl | rfl | rfl | rfl
    · refine ⟨fun z => absurd rfl z, fun _ => ⟨hcs, hB ⟨fun _ => rfl, fun z => absurd z (by decide), fun z => absurd z (by decide), fun z => absurd z (by decide)⟩⟩⟩
    · refine ⟨fun _ => ⟨fun z => absurd rfl z, fun _ => ?_⟩, fun z => absurd (by decide) z⟩
      rcases hsc with ⟨rfl, q, rfl⟩ | ⟨rfl, hq⟩
      · refine ⟨fun z => absurd z (by decide), fun _ => ⟨hcs, hB ⟨fun z => absurd z (by decide), fun _ => ?_, fun z => absurd z (by decide), fun z => absurd z (by decide)⟩⟩⟩
        rw [hv]; exact k2.2.2
      · refine ⟨fun _ => ⟨hcs, hB ⟨fun z => absurd z (by decide), fun _ => ?_, fun z => absurd z (by decide), fun z => absurd z (by decide)⟩⟩, fun z => absurd rfl z⟩
        rw [hv]
        rcases v with t | q | q
        · rfl
        · rfl
        · exact absurd rfl (hq q)
    · refine ⟨fun _ => ⟨fun _ => ⟨fun z => absurd rfl z, fun _ => ?_⟩, fun z => absurd (by decide) z⟩, fun z => absurd (by decide) z⟩
      rcases hsc with ⟨rfl, q, rfl⟩ | ⟨rfl, hq⟩
      · refine ⟨fun z => absurd z (by decide), fun _ => ?_⟩
        rw [k2.2.1]
        have hoq : ∃ t, T q.1 = some (.inl t) := by
          rcases hpp with ⟨t, hc', -⟩ | ⟨q', hc', hq⟩
          · rw [hv] at hc'; cases hc'
          · rw [hv] at hc'; cases hc'; obtain ⟨t, ht, -⟩ := hq; exact ⟨t, ht⟩
        obtain ⟨t, ht⟩ := hoq
        obtain ⟨m1, -, m3⟩ := hms.1.1 q.1 _ ht
        simp only [nI_clamp (show ι q.1 < 2 ^ 31 by omega), vp_in_i (show ι q.1 < 2 ^ 31 by omega), m1, true_and, m3]
        refine ⟨hcs, hB ⟨fun z => absurd z (by decide), fun z => absurd z (by decide), fun _ => ?_, fun z => absurd z (by decide)⟩⟩
        rw [hv, tx_leaf ht]
        simp only [lfT, ht]
      · refine ⟨fun _ => ⟨hcs, hB ⟨fun z => absurd z (by decide), fun z => absurd z (by decide), fun _ => ?_, fun z => absurd z (by decide)⟩⟩, fun z => absurd rfl z⟩
        rw [hv]
        rcases v with t | q | q
        · rfl
        · rfl
        · exact absurd rfl (hq q)
    · refine ⟨fun _ => ⟨fun _ => ⟨fun _ => ⟨hcs, hB ⟨fun z => absurd z (by decide), fun z => absurd z (by decide), fun z => absurd z (by decide), fun _ => by rw [hf]⟩⟩, fun z => absurd (by decide) z⟩, fun z => absurd (by decide) z⟩, fun z => absurd (by decide) z⟩
  have loop : ∀ (sc : Int32), (sc = nI 1 ∧ (∃ q, v = .inr (.inr q)) ∨ sc = nI 0 ∧ (∀ q, v ≠ .inr (.inr q))) → ∀ n : Nat, (n ≤ k ∧ ∀ j x, j < n → (pcs T 13 c)[j]? = some x → x ≠ p) → W_piece (mI (fun r μ' => CH scr s1 μ' ∧ A_piece T sl (nI j) (nI k) w r)) (78, [some (.inr (some 39)), some (.inl (nI j)), some (.inl (nI k)), some (.inl w), some (.inl (nI (ι p))), some (.inl sc), some (.inl (nI n))], [], s3, 0, 0) := by
    intro sc hsc
    refine mm_loop _ _ (fun n => k - n) ?_
    rintro n ⟨n0, n1⟩ ih
    obtain ⟨x, hx⟩ : ∃ x, (pcs T 13 c)[n]? = some x := ⟨_, List.getElem?_eq_getElem (show n < (pcs T 13 c).length by omega)⟩
    rw [r_piece_78]
    simp only [r_piece_0, r_piece_1, r_piece_4, r_piece_7, r_piece_8, r_piece_9, r_piece_10, r_piece_11, r_piece_12, r_piece_15, r_piece_18, r_piece_20, r_piece_21, r_piece_22, r_piece_23, r_piece_26, r_piece_27, r_piece_28, r_piece_31, r_piece_32, r_piece_33, r_piece_34, r_piece_35, r_piece_38, r_piece_39, r_piece_40, r_piece_43, r_piece_46, r_piece_48, r_piece_49, r_piece_50, r_piece_53, r_piece_54, r_piece_55, r_piece_58, r_piece_61, r_piece_63, r_piece_64, r_piece_65, r_piece_68, r_piece_69, r_piece_72, r_piece_73, r_piece_75, r_piece_76, r_piece_79, r_piece_82, r_piece_84, r_piece_85, r_piece_87, r_piece_90, r_piece_93, r_piece_97, r_piece_100, r_piece_101, r_piece_104, r_piece_106, r_piece_107, r_piece_110, r_piece_111, r_piece_112, r_piece_115, r_piece_117, r_piece_120, r_piece_121, r_piece_124, r_piece_126, r_piece_127, r_piece_130, r_piece_131, r_piece_134, r_piece_135, r_piece_136, r_piece_139, r_piece_140, r_piece_143, r_piece_145, r_piece_148, r_piece_149, r_piece_152, r_piece_154, r_piece_155, r_piece_158, r_piece_160, r_piece_161, r_piece_164, r_piece_166, nI_clamp (show n < 2 ^ 31 by omega), vp_in_i (show n < 2 ^ 31 by omega), show n < 240 by omega, true_and, e23 n x hx, nI_add, pc_i hms.1 (nn x (List.mem_of_getElem? hx)) hpn]
    refine ⟨fun he => ?_, fun hne => ih (n + 1) ⟨?_, fun j y hj hy => ?_⟩ ?_⟩
    · subst he
      exact last n (fi_u _ _ n hx n1) sc hsc
    · by_cases hnk : n = k
      · subst hnk; rw [hp] at hx; cases hx; exact absurd rfl hne
      · omega
    · by_cases hjn : j = n
      · subst hjn; rw [hx] at hy; cases hy; exact hne
      · exact n1 j y (by omega) hy
    · by_cases hnk : n = k
      · subst hnk; rw [hp] at hx; cases hx; exact absurd rfl hne
      · omega
  rw [r_piece_57]
  simp only [r_piece_0, r_piece_1, r_piece_4, r_piece_7, r_piece_8, r_piece_9, r_piece_10, r_piece_11, r_piece_12, r_piece_15, r_piece_18, r_piece_20, r_piece_21, r_piece_22, r_piece_23, r_piece_26, r_piece_27, r_piece_28, r_piece_31, r_piece_32, r_piece_33, r_piece_34, r_piece_35, r_piece_38, r_piece_39, r_piece_40, r_piece_43, r_piece_46, r_piece_48, r_piece_49, r_piece_50, r_piece_53, r_piece_54, r_piece_55, r_piece_58, r_piece_61, r_piece_63, r_piece_64, r_piece_65, r_piece_68, r_piece_69, r_piece_72, r_piece_73, r_piece_75, r_piece_76, r_piece_79, r_piece_82, r_piece_84, r_piece_85, r_piece_87, r_piece_90, r_piece_93, r_piece_97, r_piece_100, r_piece_101, r_piece_104, r_piece_106, r_piece_107, r_piece_110, r_piece_111, r_piece_112, r_piece_115, r_piece_117, r_piece_120, r_piece_121, r_piece_124, r_piece_126, r_piece_127, r_piece_130, r_piece_131, r_piece_134, r_piece_135, r_piece_136, r_piece_139, r_piece_140, r_piece_143, r_piece_145, r_piece_148, r_piece_149, r_piece_152, r_piece_154, r_piece_155, r_piece_158, r_piece_160, r_piece_161, r_piece_164, r_piece_166, nI_clamp (show ι p < 2 ^ 31 by omega), vp_in_i (show ι p < 2 ^ 31 by omega), k1, true_and, kd_k hms.1.1 hpn]
  have start : ∀ sc, _ → _ := fun sc hsc => loop sc hsc 0 ⟨Nat.zero_le _, fun j x hj => by omega⟩
  rcases v with t | q | q
  · have ek : kd T p = 0 := by simp only [kd, hv]
    rw [ek]
    exact ⟨fun _ => start (nI 0) (Or.inr ⟨rfl, fun q z => by cases z⟩), fun z => absurd (by decide) z⟩
  · have ek : kd T p = 1 := by simp only [kd, hv]
    rw [ek]
    exact ⟨fun _ => start (nI 0) (Or.inr ⟨rfl, fun q z => by cases z⟩), fun z => absurd (by decide) z⟩
  · have ek : kd T p = 2 := by simp only [kd, hv]
    rw [ek]
    exact ⟨fun z => absurd rfl z, fun _ => start (nI 1) (Or.inl ⟨rfl, q, rfl⟩)⟩
theorem k_alike (h : MS T ι μ B sp e sl im en nu ev dr sm dp lo) (a b w : Int32) : P_alike [.inr (some 39), .inl a, .inl b, .inl w] μ 0 0 (mI (fun r μ' => CH scr μ μ' ∧ A_alike T sl a b w r)) := by
  refine e_alike a b w μ _ ?_
  simp only [r_alike_0, r_alike_1, r_alike_4, r_alike_7, r_alike_8, r_alike_11, r_alike_14, r_alike_15, r_alike_16, r_alike_17, r_alike_18, r_alike_21, r_alike_22, r_alike_23, r_alike_24, r_alike_27, r_alike_28, r_alike_29, r_alike_32, r_alike_34, r_alike_35, r_alike_68, r_alike_70, r_alike_73, r_alike_74, r_alike_77, r_alike_78, r_alike_79, r_alike_80, r_alike_83, r_alike_84, r_alike_85, r_alike_86, r_alike_89, r_alike_90, r_alike_91, r_alike_94, r_alike_95, r_alike_98, r_alike_99, r_alike_100, r_alike_101, r_alike_104, r_alike_105, r_alike_106, r_alike_109, r_alike_110, r_alike_111, r_alike_114, r_alike_117, r_alike_118, r_alike_121, r_alike_122, r_alike_123, r_alike_125]
  refine ⟨_, k_isSlot μ a, ?_⟩
  rintro r s' ⟨hs, hr⟩
  subst hs
  subst hr
  rcases ix_8 h.2.1.1.1 a with ⟨h1, h2⟩ | ⟨j, c, rfl, hj, hc, h1, h2⟩
  · rw [if_neg h2]
    simp only [mI_e]
    exact ⟨fun _ => ⟨CH_rf _ _, ⟨fun _ => rfl, fun c d hc => by rw [h1] at hc; cases hc⟩⟩, fun z => absurd (by decide) z⟩
  rw [if_pos h2]
  refine ⟨fun z => absurd z (by decide), fun _ => ?_⟩
  refine ⟨_, k_isSlot s' b, ?_⟩
  rintro r s1 ⟨hs, hr⟩
  subst hs
  subst hr
  rcases ix_8 h.2.1.1.1 b with ⟨i1, i2⟩ | ⟨k, d, rfl, hk, hd, i1, i2⟩
  · rw [if_neg i2]
    simp only [mI_e]
    exact ⟨fun z => absurd (by decide) z, fun _ => ⟨CH_rf _ _, ⟨fun _ => rfl, fun c d _ hd => by rw [i1] at hd; cases hd⟩⟩⟩
  rw [if_pos i2]
  refine ⟨fun _ => ?_, fun z => absurd (by decide) z⟩
  obtain ⟨w1, w2, w3, w4, w5, w6, w7⟩ := MS_sl h hc
  obtain ⟨v1, v2, v3, v4, v5, v6, v7⟩ := MS_sl h hd
  simp only [nI_clamp (show j < 2 ^ 31 by omega), vp_in_i (show j < 2 ^ 31 by omega), hj, true_and, w5, nI_clamp (show k < 2 ^ 31 by omega), vp_in_i (show k < 2 ^ 31 by omega), hk, v5]
  refine ⟨_, k_areSame h.1.1 h.1.x w2 v2, ?_⟩
  rintro r s2 ⟨⟨g1, g2⟩, rfl⟩
  have hcs : CH scr s1 s2 := CH_w g1 (by decide)
  have e9 : s2.2 9 = s1.2 9 := (g1 9 (by decide)).2
  have hA : ∀ {r : Int32}, (((w.toInt < 0 ∨ 4 < w.toInt) → r = Int32.ofInt (-2)) ∧ (w.toInt = 0 → r = if tx T 13 c = tx T 13 d then 1 else 0) ∧ (w.toInt = 1 → r = if c = d then 1 else 0) ∧ (w.toInt = 2 → r = nI (lcp (tx T 13 c) (tx T 13 d))) ∧ (w.toInt = 3 → isPlc (tx T 13 c) (tx T 13 d) r) ∧ (w.toInt = 4 → (cfs (tx T 13 c) (tx T 13 d) ∧ r = 1) ∨ (¬ cfs (tx T 13 c) (tx T 13 d) ∧ r = 0))) → A_alike T sl (nI j) (nI k) w r := fun hr => ⟨fun z => z.elim (fun z => by rw [h1] at z; cases z) (fun z => by rw [i1] at z; cases z), fun c' d' hc' hd' => by rw [h1] at hc'; cases hc'; rw [i1] at hd'; cases hd'; exact hr⟩
  have no : ∀ {P : Prop} {a b : Int}, w.toInt = a → w.toInt = b → a ≠ b → P := fun h1 h2 h3 => absurd (h1.symm.trans h2) h3
  have noR : ∀ {P : Prop} {a : Int}, w.toInt = a → (w.toInt < 0 ∨ 4 < w.toInt) → 0 ≤ a ∧ a ≤ 4 → P := fun h1 h2 h3 => by omega
  simp only [mI_e, e9, w5, v5, pc_i h.1 w3 v3]
  refine ⟨fun hw => ?_, fun hw => ?_, fun hw => ?_, fun hw => ?_, fun hw => ?_, fun hw => ?_, trivial⟩
  · exact ⟨hcs, hA ⟨fun _ => rfl, fun z => noR z hw (by decide), fun z => noR z hw (by decide), fun z => noR z hw (by decide), fun z => noR z hw (by decide), fun z => noR z hw (by decide)⟩⟩
  · have fin : ∀ {r : Int32}, (r = if tx T 13 c = tx T 13 d then 1 else 0) → A_alike T sl (nI j) (nI k) w r := fun hr => hA ⟨fun z => noR hw z (by decide), fun _ => hr, fun z => no hw z (by decide), fun z => no hw z (by decide), fun z => no hw z (by decide), fun z => no hw z (by decide)⟩
    by_cases ht : tx T 13 c = tx T 13 d
    · rw [if_pos ht]
      exact ⟨fun z => absurd z (by decide), fun _ => ⟨hcs, fin (by rw [if_pos ht]; rfl)⟩⟩
    · rw [if_neg ht]
      exact ⟨fun _ => ⟨hcs, fin (by rw [if_neg ht]; exact nI_0)⟩, fun z => absurd rfl z⟩
  · have fin : ∀ {r : Int32}, (r = if c = d then 1 else 0) → A_alike T sl (nI j) (nI k) w r := fun hr => hA ⟨fun z => noR hw z (by decide), fun z => no hw z (by decide), fun _ => hr, fun z => no hw z (by decide), fun z => no hw z (by decide), fun z => no hw z (by decide)⟩
    exact ⟨fun hne => ⟨hcs, fin (by rw [if_neg hne]; exact nI_0)⟩, fun he => ⟨hcs, fin (by rw [if_pos (Classical.not_not.mp he)]; rfl)⟩⟩
  · refine ⟨_, k_alikeSigns g2, ?_⟩
    rintro r s3 ⟨rfl, rfl⟩
    exact ⟨hcs, hA ⟨fun z => noR hw z (by decide), fun z => no hw z (by decide), fun z => no hw z (by decide), fun _ => rfl, fun z => no hw z (by decide), fun z => no hw z (by decide)⟩⟩
  · refine ⟨_, k_placeIn g2, ?_⟩
    rintro r s3 ⟨rfl, hr⟩
    exact ⟨hcs, hA ⟨fun z => noR hw z (by decide), fun z => no hw z (by decide), fun z => no hw z (by decide), fun z => no hw z (by decide), fun _ => hr, fun z => no hw z (by decide)⟩⟩
  · refine ⟨_, k_comesFirst g2 (wf_okt 13 c w2).2 (wf_okt 13 d v2).2, ?_⟩
    rintro r s3 ⟨rfl, hr⟩
    have fin : ∀ {r : Int32}, ((cfs (tx T 13 c) (tx T 13 d) ∧ r = 1) ∨ (¬ cfs (tx T 13 c) (tx T 13 d) ∧ r = 0)) → A_alike T sl (nI j) (nI k) w r := fun hr => hA ⟨fun z => noR hw z (by decide), fun z => no hw z (by decide), fun z => no hw z (by decide), fun z => no hw z (by decide), fun z => no hw z (by decide), fun _ => hr⟩
    rcases hr with ⟨hr, rfl⟩ | ⟨hr, rfl⟩
    · exact ⟨fun z => absurd z (by decide), fun _ => ⟨hcs, fin (Or.inl ⟨hr, rfl⟩)⟩⟩
    · exact ⟨fun _ => ⟨hcs, fin (Or.inr ⟨hr, nI_0⟩)⟩, fun z => absurd rfl z⟩
end
