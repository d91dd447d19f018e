theorem wf_nn {T : sT} {n x : Nat} (h : wf T n x) : T x ≠ none := fun z => by cases n <;> simp [wf, z] at h
theorem RR_size {T0 T1 : sT} {ι1 : Nat → Nat} {μ : rf_M} {B1 sp e n c : Nat} (hext : ∀ c v, T0 c = some v → T1 c = some v) (h : RR T1 ι1 μ B1 sp e) (hn : n ≤ 12) (hw : wf T0 n c) : ι1 c < 20480 ∧ μ.2 3 (ι1 c) = nI (tx T0 n c).length := by
  obtain ⟨v, hv⟩ := Option.ne_none_iff_exists'.mp (wf_nn hw)
  obtain ⟨g1, -, g3⟩ := h.1 c v (hext c v hv)
  obtain ⟨a1, a2, -⟩ := ext_wf hext n c hw
  rw [(wf_le (show n ≤ 13 by omega) a1).2.1, a2] at g3
  exact ⟨g1, g3⟩
theorem cutT_0 {T : sT} {sm dp lo n c f : Nat} : cutT T sm dp lo n c f 0 = tl (.inr (.inl [])) := by cases n <;> simp [cutT]
theorem cutT_all {T : sT} {sm dp lo n c f : Nat} (h : ¬ (tx T n c).length = 0) : cutT T sm dp lo n c f (tx T n c).length = tl (.inl c) := by
  cases n <;> (unfold cutT; rw [if_neg h, if_pos rfl])
theorem cutT_leaf {T : sT} {sm dp lo n c f m : Nat} {t : List Int32} (hc : T c = some (.inl t)) (h0 : ¬ m = 0) (h1 : ¬ m = (tx T n c).length) : cutT T sm dp lo n c f m = cutL t lo c f m := by
  cases n <;> (unfold cutT; rw [if_neg h0, if_neg h1, hc])
theorem cutT_slice {T : sT} {sm dp lo n c f m : Nat} {q : Nat × Nat × Nat} (hc : T c = some (.inr (.inr q))) (h0 : ¬ m = 0) (h1 : ¬ m = (tx T n c).length) : cutT T sm dp lo n c f m = cutL (lfT T q.1) lo q.1 (q.2.1 + f) m := by
  cases n <;> (unfold cutT; rw [if_neg h0, if_neg h1, hc])
theorem cutT_join {T : sT} {sm dp lo n c f m : Nat} {q : Nat × Nat} (hc : T c = some (.inr (.inl q))) (h0 : ¬ m = 0) (h1 : ¬ m = (tx T (n + 1) c).length) : cutT T sm dp lo (n + 1) c f m = if f + m ≤ (tx T n q.1).length then cutT T sm dp lo n q.1 f m else if (tx T n q.1).length ≤ f then cutT T sm dp lo n q.2 (f - (tx T n q.1).length) m else joinT T sm dp (cutT T sm dp lo n q.1 f ((tx T n q.1).length - f)) (cutT T sm dp lo n q.2 0 (f + m - (tx T n q.1).length)) := by
  conv => lhs; unfold cutT
  rw [if_neg h0, if_neg h1, hc]
theorem jn_join {T : sT} {n c f m : Nat} {q : Nat × Nat} (hc : T c = some (.inr (.inl q))) (h0 : ¬ m = 0) (h1 : ¬ m = (tx T (n + 1) c).length) : jn T (n + 1) c f m = if f + m ≤ (tx T n q.1).length then jn T n q.1 f m else if (tx T n q.1).length ≤ f then jn T n q.2 (f - (tx T n q.1).length) m else 1 + jn T n q.1 f ((tx T n q.1).length - f) + jn T n q.2 0 (f + m - (tx T n q.1).length) := by
  simp only [jn]
  rw [if_neg h0, if_neg h1, hc]
def isJ (T : sT) (c : Nat) : Prop := ∃ q, T c = some (.inr (.inl q))
set_option maxHeartbeats 4000000 in
/-- a cut that is no join's: the part comes to the others -/
theorem k_cutOneD {T0 T1 : sT} {ι1 : Nat → Nat} {μ : rf_M} {B1 sp e sm dp lo : Nat} (hext : ∀ c v, T0 c = some v → T1 c = some v) (h : RR T1 ι1 μ B1 sp e) (h20 : μ.1 20 = nI lo) (hlo : 1 ≤ lo ∧ lo ≤ 8) {n c f m R : Nat} (hn : n ≤ 12) (hw : wf T0 n c) (hfm : f + m ≤ (tx T0 n c).length) (hR : R < 511) (hd : m = 0 ∨ m = (tx T0 n c).length ∨ ¬ isJ T0 c) (hsp : 1 ≤ sp) (he : e + 122 ≤ 81920) :
    P_cutOne [.inr (some 39), .inl (nI (ι1 c)), .inl (nI f), .inl (nI m), .inl (nI R)] μ 0 0 (mI (fun r μ' => r = nI (R + 1) ∧ ∃ (T2 : sT) (ι2 : Nat → Nat) (B2 sp2 e2 k : Nat) (F : List Nat), rPart T1 ι1 B1 (cutT T0 sm dp lo n c f m) T2 ι2 B2 k F ∧ RR T2 ι2 μ' B2 sp2 e2 ∧ sp ≤ sp2 + 1 ∧ e2 ≤ e + 122 ∧ CH (36 :: joinF) μ μ' ∧ μ'.2 36 = upd (μ.2 36) R (nI (ι2 k)))) := by
  obtain ⟨gc, sc⟩ := RR_size hext h hn hw
  have hl120 := (wf_okt n c hw).1
  obtain ⟨v, hv⟩ := Option.ne_none_iff_exists'.mp (wf_nn hw)
  have hv1 := hext c v hv
  obtain ⟨-, gk, -⟩ := h.1 c v hv1
  have hTB : T1 B1 = none := h.2.2.2.1 B1 (Nat.le_refl _)
  refine e_cutOne _ _ _ _ μ _ ?_
  generalize hret : (mI (fun r μ' => r = nI (R + 1) ∧ ∃ (T2 : sT) (ι2 : Nat → Nat) (B2 sp2 e2 k : Nat) (F : List Nat), rPart T1 ι1 B1 (cutT T0 sm dp lo n c f m) T2 ι2 B2 k F ∧ RR T2 ι2 μ' B2 sp2 e2 ∧ sp ≤ sp2 + 1 ∧ e2 ≤ e + 122 ∧ CH (36 :: joinF) μ μ' ∧ μ'.2 36 = upd (μ.2 36) R (nI (ι2 k)))) = ret
  simp only [r_cutOne_0, r_cutOne_1, r_cutOne_4, r_cutOne_5, r_cutOne_8, r_cutOne_10, r_cutOne_11, r_cutOne_12, r_cutOne_15, r_cutOne_16, r_cutOne_18, r_cutOne_19, r_cutOne_20, r_cutOne_21, r_cutOne_22, r_cutOne_23, r_cutOne_26, r_cutOne_27, r_cutOne_28, r_cutOne_31, r_cutOne_32, r_cutOne_35, r_cutOne_37, r_cutOne_38, r_cutOne_39, r_cutOne_41, r_cutOne_42, r_cutOne_43, r_cutOne_44, r_cutOne_45, r_cutOne_48, r_cutOne_49, r_cutOne_50, r_cutOne_51, r_cutOne_54, r_cutOne_55, r_cutOne_58, r_cutOne_60, r_cutOne_61, r_cutOne_64, r_cutOne_65, r_cutOne_66, r_cutOne_67, r_cutOne_70, r_cutOne_71, r_cutOne_72, r_cutOne_73, r_cutOne_74, r_cutOne_77, r_cutOne_80, r_cutOne_81, r_cutOne_82, r_cutOne_85, r_cutOne_86, r_cutOne_87, r_cutOne_88, r_cutOne_91, r_cutOne_92, r_cutOne_93, r_cutOne_94, r_cutOne_95, r_cutOne_96, r_cutOne_99, r_cutOne_100, r_cutOne_102, r_cutOne_103, r_cutOne_104, r_cutOne_105, r_cutOne_106, r_cutOne_109, r_cutOne_110, r_cutOne_113, r_cutOne_114, r_cutOne_115, r_cutOne_116, r_cutOne_118, r_cutOne_119, r_cutOne_120, r_cutOne_121, r_cutOne_123, r_cutOne_126, r_cutOne_127, r_cutOne_128, r_cutOne_131, r_cutOne_132, r_cutOne_133, r_cutOne_134, r_cutOne_135, r_cutOne_138, r_cutOne_141, r_cutOne_142, r_cutOne_144, r_cutOne_147, r_cutOne_148, r_cutOne_149, r_cutOne_152, r_cutOne_153, r_cutOne_154, r_cutOne_155, r_cutOne_157, r_cutOne_158, r_cutOne_159, r_cutOne_162, r_cutOne_165, r_cutOne_166, r_cutOne_168, r_cutOne_169, r_cutOne_171, r_cutOne_174, r_cutOne_175, r_cutOne_176, r_cutOne_179, r_cutOne_180, r_cutOne_181, r_cutOne_182, r_cutOne_183, r_cutOne_184, r_cutOne_185, r_cutOne_187, r_cutOne_188, r_cutOne_191, r_cutOne_192, r_cutOne_193, r_cutOne_196, r_cutOne_197, r_cutOne_198, r_cutOne_199, r_cutOne_201, r_cutOne_202, r_cutOne_203, r_cutOne_206, r_cutOne_208, nI_z (show m < 2 ^ 31 by omega), nI_clamp (show ι1 c < 2 ^ 31 by omega), vp_in_i (show ι1 c < 2 ^ 31 by omega), gc, true_and, sc, nI_eq (show m < 2 ^ 31 by omega) (show (tx T0 n c).length < 2 ^ 31 by omega), nI_clamp (show R < 2 ^ 31 by omega), vp_in_i (show R < 2 ^ 31 by omega), show R < 512 by omega, nI_add]
  by_cases h0 : m = 0
  · subst h0
    refine ⟨fun hz => absurd rfl hz, fun _ => ?_⟩
    refine ⟨_, k_newLeaf (L := []) h hsp ⟨Nat.zero_le _, fun x hx => by simp at hx⟩ (AP_nil _) (by simp; omega), ?_⟩
    rintro r s1 ⟨i, rfl, hi, hc1, hR1⟩
    subst hret
    rw [mI_e]
    refine ⟨rfl, _, _, B1 + 1, sp - 1, _, B1, [B1], ⟨BX_up hTB, by omega, ?_, by simp, ?_, by rw [va_up_self]; exact fun z => by cases z⟩, RR_ch hR1 (CH_a2 (l := [36]) (CH_rf _ s1) (by decide)) (by decide), by omega, by simp, CH_a2 (CH_w hc1 (by decide)) (by decide), ?_⟩
    · rw [cutT_0]; exact ⟨va_up_self _ _ _, rfl⟩
    · intro x hx; cases List.mem_singleton.mp hx; omega
    · dsimp only
      rw [rf_up_s, (hc1 36 (by decide)).2, va_up_self]
  refine ⟨fun _ => ?_, fun hz => absurd h0 hz⟩
  by_cases h1 : m = (tx T0 n c).length
  · refine ⟨fun hz => absurd h1 hz, fun _ => ?_⟩
    subst hret
    rw [mI_e]
    refine ⟨rfl, T1, ι1, B1, sp, e, c, [], ⟨BX_rf _ _, Nat.le_refl _, ?_, List.nodup_nil, fun x hx => by simp at hx, by rw [hv1]; exact fun z => by cases z⟩, RR_ch h (CH_a2 (l := [36]) (CH_rf _ μ) (by decide)) (by decide), by omega, by omega, CH_a2 (CH_rf _ μ) (by decide), ?_⟩
    · rw [h1, cutT_all (by omega)]; exact ⟨rfl, rfl⟩
    · dsimp only
      rw [rf_up_s]
  refine ⟨fun _ => ?_, fun hz => absurd h1 hz⟩
  have hnj : ¬ isJ T0 c := by
    rcases hd with hd | hd | hd
    · exact absurd hd h0
    · exact absurd hd h1
    · exact hd
  rcases wf_cases hw with ⟨t, hc, ht⟩ | ⟨q, hc, hq⟩ | ⟨k, q, hk, hc, -⟩
  · rw [hv] at hc; cases hc
    have gk : μ.2 0 (ι1 c) = nI 1 := gk
    rw [tx_leaf hv] at hfm
    have h12 : ¬ (nI 1 : Int32) = nI 2 := by decide
    simp only [gk, h12, not_false_eq_true, forall_const, false_implies, true_and, and_true, not_true_eq_false]
    refine ⟨_, k_cutLeaf hext h h20 hlo hv ht (by omega) hfm hsp he, ?_⟩
    rintro r s1 ⟨T2, ι2, B2, sp2, e2, k, F, rfl, hp, hR2, hs2, he2, hc2⟩
    subst hret
    rw [mI_e]
    refine ⟨rfl, T2, ι2, B2, sp2, e2, k, F, ?_, RR_ch hR2 (CH_a2 (l := [36]) (CH_rf _ s1) (by decide)) (by decide), hs2, he2, CH_a2 (CH_w hc2 (by decide)) (by decide), ?_⟩
    · rw [cutT_leaf hv h0 h1]; exact hp
    · dsimp only
      rw [rf_up_s, (hc2 36 (by decide)).2]
  · rw [hv] at hc; cases hc
    obtain ⟨g0, g1, g2⟩ := gk
    have h32 : ¬ (nI 3 : Int32) = nI 2 := by decide
    have h31 : ¬ (nI 3 : Int32) = nI 1 := by decide
    obtain ⟨t, q1, q2, q3, q4, q5⟩ := id hq
    have hq120 := q2.1
    rw [tx_slice hv, oks_len hq] at hfm
    simp only [g0, g1, g2, h32, h31, not_false_eq_true, forall_const, false_implies, true_and, and_true, not_true_eq_false, nI_add]
    refine ⟨_, k_cutLeaf (f := q.2.1 + f) hext h h20 hlo q1 q2 (by omega) (by omega) hsp he, ?_⟩
    rintro r s1 ⟨T2, ι2, B2, sp2, e2, k, F, rfl, hp, hR2, hs2, he2, hc2⟩
    subst hret
    rw [mI_e]
    refine ⟨rfl, T2, ι2, B2, sp2, e2, k, F, ?_, RR_ch hR2 (CH_a2 (l := [36]) (CH_rf _ s1) (by decide)) (by decide), hs2, he2, CH_a2 (CH_w hc2 (by decide)) (by decide), ?_⟩
    · rw [cutT_slice hv h0 h1, show lfT T0 q.1 = t by simp only [lfT, q1]]; exact hp
    · dsimp only
      rw [rf_up_s, (hc2 36 (by decide)).2]
  · exact absurd ⟨q, hc⟩ hnj
set_option maxHeartbeats 4000000 in
/-- a cut of a join: others come in its place -/
theorem k_cutOneJ {T0 T1 : sT} {ι1 : Nat → Nat} {μ : rf_M} {B1 sp e : Nat} (hext : ∀ c v, T0 c = some v → T1 c = some v) (h : RR T1 ι1 μ B1 sp e) {n c f m R cu : Nat} (hn : n + 1 ≤ 12) (hw : wf T0 (n + 1) c) (hfm : f + m ≤ (tx T0 (n + 1) c).length) (h0 : ¬ m = 0) (h1 : ¬ m = (tx T0 (n + 1) c).length) {q : Nat × Nat} (hc : T0 c = some (.inr (.inl q))) (h35 : μ.1 35 = nI cu) (hcu : cu + 3 < 512) :
    P_cutOne [.inr (some 39), .inl (nI (ι1 c)), .inl (nI f), .inl (nI m), .inl (nI R)] μ 0 0 (mI (fun r μ' => r = nI R ∧
      (f + m ≤ (tx T0 n q.1).length → μ' = (upd μ.1 35 (nI (cu + 1)), rf_up (rf_up (rf_up μ.2 32 cu (nI (ι1 q.1))) 33 cu (nI f)) 34 cu (nI m))) ∧
      (¬ f + m ≤ (tx T0 n q.1).length → (tx T0 n q.1).length ≤ f → μ' = (upd μ.1 35 (nI (cu + 1)), rf_up (rf_up (rf_up μ.2 32 cu (nI (ι1 q.2))) 33 cu (nI (f - (tx T0 n q.1).length))) 34 cu (nI m))) ∧
      (¬ f + m ≤ (tx T0 n q.1).length → ¬ (tx T0 n q.1).length ≤ f → ∃ μa μb, μa = (upd μ.1 35 (nI (cu + 1)), rf_up (rf_up (rf_up μ.2 32 cu (Int32.ofInt (-6))) 33 cu (nI 0)) 34 cu (Int32.ofInt (-6))) ∧ μb = (upd μa.1 35 (nI (cu + 2)), rf_up (rf_up (rf_up μa.2 32 (cu + 1) (nI (ι1 q.2))) 33 (cu + 1) (nI 0)) 34 (cu + 1) (nI (f + m - (tx T0 n q.1).length))) ∧ μ' = (upd μb.1 35 (nI (cu + 3)), rf_up (rf_up (rf_up μb.2 32 (cu + 2) (nI (ι1 q.1))) 33 (cu + 2) (nI f)) 34 (cu + 2) (nI ((tx T0 n q.1).length - f)))))) := by
  obtain ⟨gc, sc⟩ := RR_size hext h hn hw
  have hl120 := (wf_okt _ c hw).1
  obtain ⟨w1, w2, w3, w4, w5⟩ := (wf_join hc).mp hw
  obtain ⟨ga, sa⟩ := RR_size hext h (show n ≤ 12 by omega) w1
  obtain ⟨gb, sb⟩ := RR_size hext h (show n ≤ 12 by omega) w2
  obtain ⟨-, ⟨g0, g1, g2⟩, -⟩ := h.1 c _ (hext c _ hc)
  refine e_cutOne _ _ _ _ μ _ ?_
  simp only [r_cutOne_0, r_cutOne_1, r_cutOne_4, r_cutOne_5, r_cutOne_8, r_cutOne_10, r_cutOne_11, r_cutOne_12, r_cutOne_15, r_cutOne_16, r_cutOne_18, r_cutOne_19, r_cutOne_20, r_cutOne_21, r_cutOne_22, r_cutOne_23, r_cutOne_26, r_cutOne_27, r_cutOne_28, r_cutOne_31, r_cutOne_32, r_cutOne_35, r_cutOne_37, r_cutOne_38, r_cutOne_39, r_cutOne_41, r_cutOne_42, r_cutOne_43, r_cutOne_44, r_cutOne_45, r_cutOne_48, r_cutOne_49, r_cutOne_50, r_cutOne_51, r_cutOne_54, r_cutOne_55, r_cutOne_58, r_cutOne_60, r_cutOne_61, r_cutOne_64, r_cutOne_65, r_cutOne_66, r_cutOne_67, r_cutOne_70, r_cutOne_71, r_cutOne_72, r_cutOne_73, r_cutOne_74, r_cutOne_77, r_cutOne_80, r_cutOne_81, r_cutOne_82, r_cutOne_85, r_cutOne_86, r_cutOne_87, r_cutOne_88, r_cutOne_91, r_cutOne_92, r_cutOne_93, r_cutOne_94, r_cutOne_95, r_cutOne_96, r_cutOne_99, r_cutOne_100, r_cutOne_102, r_cutOne_103, r_cutOne_104, r_cutOne_105, r_cutOne_106, r_cutOne_109, r_cutOne_110, r_cutOne_113, r_cutOne_114, r_cutOne_115, r_cutOne_116, r_cutOne_118, r_cutOne_119, r_cutOne_120, r_cutOne_121, r_cutOne_123, r_cutOne_126, r_cutOne_127, r_cutOne_128, r_cutOne_131, r_cutOne_132, r_cutOne_133, r_cutOne_134, r_cutOne_135, r_cutOne_138, r_cutOne_141, r_cutOne_142, r_cutOne_144, r_cutOne_147, r_cutOne_148, r_cutOne_149, r_cutOne_152, r_cutOne_153, r_cutOne_154, r_cutOne_155, r_cutOne_157, r_cutOne_158, r_cutOne_159, r_cutOne_162, r_cutOne_165, r_cutOne_166, r_cutOne_168, r_cutOne_169, r_cutOne_171, r_cutOne_174, r_cutOne_175, r_cutOne_176, r_cutOne_179, r_cutOne_180, r_cutOne_181, r_cutOne_182, r_cutOne_183, r_cutOne_184, r_cutOne_185, r_cutOne_187, r_cutOne_188, r_cutOne_191, r_cutOne_192, r_cutOne_193, r_cutOne_196, r_cutOne_197, r_cutOne_198, r_cutOne_199, r_cutOne_201, r_cutOne_202, r_cutOne_203, r_cutOne_206, r_cutOne_208, nI_z (show m < 2 ^ 31 by omega), nI_clamp (show ι1 c < 2 ^ 31 by omega), vp_in_i (show ι1 c < 2 ^ 31 by omega), gc, true_and, sc, nI_eq (show m < 2 ^ 31 by omega) (show (tx T0 (n + 1) c).length < 2 ^ 31 by omega), h0, h1, g0, g1, g2, not_false_eq_true, forall_const, false_implies, and_true, not_true_eq_false, nI_clamp (show ι1 q.1 < 2 ^ 31 by omega), vp_in_i (show ι1 q.1 < 2 ^ 31 by omega), ga, sa, nI_add, nI_ltI (show (tx T0 n q.1).length < 2 ^ 31 by omega) (show f + m < 2 ^ 31 by omega), nI_ltI (show f < 2 ^ 31 by omega) (show (tx T0 n q.1).length < 2 ^ 31 by omega)]
  refine ⟨fun hgt => ⟨fun hlt => ?_, fun hge => ?_⟩, fun hle => ?_⟩
  · refine ⟨_, k_toCut _ _ _ _ cu h35 (by omega), ?_⟩
    rintro s1 rfl
    have e2 : ∀ x y z : Int32, (rf_up (rf_up (rf_up μ.2 32 cu x) 33 cu y) 34 cu z) 2 = μ.2 2 := fun x y z => by rw [rf_up_n (by decide), rf_up_n (by decide), rf_up_n (by decide)]
    have e1 : ∀ x y z : Int32, (rf_up (rf_up (rf_up μ.2 32 cu x) 33 cu y) 34 cu z) 1 = μ.2 1 := fun x y z => by rw [rf_up_n (by decide), rf_up_n (by decide), rf_up_n (by decide)]
    simp only [e2, g2, true_and, pk_sub (show (tx T0 n q.1).length ≤ f + m by omega)]
    refine ⟨_, k_toCut _ _ _ _ (cu + 1) pk_usM (by omega), ?_⟩
    rintro s2 rfl
    have e1' : ∀ x y z : Int32, ∀ g : Nat → Nat → Int32, (rf_up (rf_up (rf_up g 32 (cu + 1) x) 33 (cu + 1) y) 34 (cu + 1) z) 1 = g 1 := fun x y z g => by rw [rf_up_n (by decide), rf_up_n (by decide), rf_up_n (by decide)]
    simp only [e1', e1, g1, true_and, pk_sub (show f ≤ (tx T0 n q.1).length by omega)]
    refine ⟨_, k_toCut _ _ _ _ (cu + 2) pk_usM (by omega), ?_⟩
    rintro s3 rfl
    rw [mI_e]
    exact ⟨rfl, fun z => absurd z (by omega), fun _ z => absurd z (by omega), fun _ _ => ⟨_, _, rfl, rfl, rfl⟩⟩
  · rw [pk_sub (by omega)]
    refine ⟨_, k_toCut _ _ _ _ cu h35 (by omega), ?_⟩
    rintro s1 rfl
    rw [mI_e]
    exact ⟨rfl, fun z => absurd z (by omega), fun _ _ => rfl, fun _ z => absurd (show (tx T0 n q.1).length ≤ f by omega) z⟩
  · refine ⟨_, k_toCut _ _ _ _ cu h35 (by omega), ?_⟩
    rintro s1 rfl
    rw [mI_e]
    exact ⟨rfl, fun _ => rfl, fun z => absurd (show f + m ≤ (tx T0 n q.1).length by omega) z, fun z => absurd (show f + m ≤ (tx T0 n q.1).length by omega) z⟩
