/-! ===== the reference: joined ===== -/
theorem k_balanced {T0 T1 : sT} {ι1 : Nat → Nat} {μ : rf_M} {B1 sp e : Nat} (hext : ∀ c v, T0 c = some v → T1 c = some v) (h : RR T1 ι1 μ B1 sp e) {L : List tL} {P : List Nat} (hL : ∀ x ∈ L, okL T0 x) (hL0 : 0 < L.length) (h120 : (L.flatMap (lbt T0)).length ≤ 120) (hR : LbR T1 L P) (hPn : ∀ x ∈ P, T1 x ≠ none) (h24 : μ.1 24 = nI P.length) (h23 : AP (μ.2 23) (P.map (fun p => nI (ι1 p)))) (hsp : L.length ≤ sp + 1) (hnd : (nwP L P).Nodup) (hlt : ∀ x ∈ nwP L P, x < B1) :
    P_balanced [.inr (some 39)] μ 0 0 (mI (fun r μ' => ∃ (T2 : sT) (ι2 : Nat → Nat) (B2 sp2 k : Nat) (F : List Nat), r = nI (ι2 k) ∧ BX T1 ι1 T2 ι2 ∧ RR T2 ι2 μ' B2 sp2 e ∧ B1 ≤ B2 ∧ sp + 1 = sp2 + L.length ∧ CH balF μ μ' ∧ rT T2 (bal 7 L) k F ∧ F.Nodup ∧ (∀ x ∈ F, x ∈ nwP L P ∨ (B1 ≤ x ∧ x < B2)) ∧ T2 k ≠ none)) := by
  have hl120 : L.length ≤ 120 := Nat.le_trans (fm_len L (fun x hx => (hL x hx).2)) h120
  refine e_balanced μ _ ?_
  generalize hret : (mI (fun r μ' => ∃ (T2 : sT) (ι2 : Nat → Nat) (B2 sp2 k : Nat) (F : List Nat), r = nI (ι2 k) ∧ BX T1 ι1 T2 ι2 ∧ RR T2 ι2 μ' B2 sp2 e ∧ B1 ≤ B2 ∧ sp + 1 = sp2 + L.length ∧ CH balF μ μ' ∧ rT T2 (bal 7 L) k F ∧ F.Nodup ∧ (∀ x ∈ F, x ∈ nwP L P ∨ (B1 ≤ x ∧ x < B2)) ∧ T2 k ≠ none)) = ret
  have hPL : P.length = L.length := hR.1.symm
  have e24 : upd μ.1 31 (nI 0) 24 = nI L.length := by rw [pk_un (by decide), h24, hPL]
  simp only [r_balanced_0, r_balanced_1, r_balanced_2, r_balanced_3, r_balanced_4, r_balanced_7, r_balanced_8, r_balanced_9, r_balanced_10, r_balanced_13, r_balanced_14, r_balanced_18, r_balanced_21, r_balanced_24, r_balanced_25, r_balanced_26, r_balanced_29, r_balanced_30, r_balanced_31, r_balanced_34, r_balanced_35, r_balanced_38, r_balanced_39, r_balanced_42, r_balanced_43, r_balanced_44, r_balanced_45, r_balanced_48, r_balanced_49, r_balanced_52, r_balanced_53, r_balanced_54, r_balanced_55, r_balanced_56, r_balanced_57, r_balanced_58, r_balanced_61, r_balanced_62, r_balanced_65, r_balanced_66, r_balanced_67, r_balanced_70, r_balanced_71, r_balanced_72, r_balanced_73, r_balanced_76, r_balanced_79, r_balanced_80, r_balanced_83, r_balanced_84, r_balanced_87, r_balanced_88, r_balanced_91, r_balanced_94, r_balanced_95, r_balanced_98, r_balanced_99, r_balanced_100, r_balanced_101, r_balanced_102, r_balanced_103, r_balanced_106, r_balanced_107, r_balanced_108, r_balanced_109, r_balanced_110, r_balanced_111, r_balanced_114, r_balanced_115, r_balanced_116, r_balanced_119, r_balanced_120, r_balanced_123, r_balanced_124, r_balanced_125, r_balanced_126, r_balanced_127, r_balanced_128, r_balanced_129, r_balanced_130, r_balanced_132, r_balanced_133, r_balanced_134, r_balanced_135, r_balanced_136, r_balanced_139, r_balanced_140, r_balanced_142, r_balanced_143, r_balanced_144, r_balanced_147, r_balanced_148, r_balanced_149, r_balanced_151, r_balanced_152, r_balanced_155, r_balanced_158, r_balanced_159, r_balanced_162, r_balanced_163, r_balanced_164, e24]
  refine ⟨_, k_push _ _ _ _ 0 pk_usM (by decide) (Or.inl nI_0), ?_⟩
  rintro s1 rfl
  have hc1 : CH balF μ (upd μ.1 31 (nI 0), μ.2) := CH_i2 (CH_rf _ μ) (by decide)
  have hS0 : balS T0 T1 ι1 (upd μ.1 31 (nI 0), μ.2) B1 sp e L P [] [] := ⟨hext, RR_ch h (CH_i2 (l := [31]) (CH_rf _ μ) (by decide)) (by decide), hR, pk_usM, AP_nil _, AP_nil _, AP_nil _, h23, AP_nil _, fun x hx => by simp at hx, hPn⟩
  have hS1 := balS_push (f := 0) (t := L.length) (h := 0) hS0
  have hsubL : sub L 0 L.length = L := sub_all L
  have hsubP : sub P 0 L.length = P := by rw [← hPL]; exact sub_all P
  have hrun := bal_run (ret := ret) hL h120 L.length 0 L.length (by omega) hL0 (Nat.le_refl _) T1 ι1 _ B1 sp [] [] none none none hS1 (by simp; omega) (by simp; omega) hsp (by rw [hsubL, hsubP]; exact hnd) (by rw [hsubL, hsubP]; exact hlt) ?_
  · exact hrun
  · intro T2 ι2 μ2 B2 sp2 k F l2 l3 l4 hS2 hx hB hc hsp2 hr hF hin
    rw [hsubL] at hr
    rw [hsubL, hsubP] at hin
    obtain ⟨q1, q2, q3, q4, q5, q6, q7, q8, q9, q10, q11⟩ := hS2
    have d0 : μ2.2 30 0 = nI (ι2 k) := q9 0 _ (by simp)
    have q4' : μ2.1 31 = nI 0 := q4
    rw [r_balanced_17]
    simp only [r_balanced_0, r_balanced_1, r_balanced_2, r_balanced_3, r_balanced_4, r_balanced_7, r_balanced_8, r_balanced_9, r_balanced_10, r_balanced_13, r_balanced_14, r_balanced_18, r_balanced_21, r_balanced_24, r_balanced_25, r_balanced_26, r_balanced_29, r_balanced_30, r_balanced_31, r_balanced_34, r_balanced_35, r_balanced_38, r_balanced_39, r_balanced_42, r_balanced_43, r_balanced_44, r_balanced_45, r_balanced_48, r_balanced_49, r_balanced_52, r_balanced_53, r_balanced_54, r_balanced_55, r_balanced_56, r_balanced_57, r_balanced_58, r_balanced_61, r_balanced_62, r_balanced_65, r_balanced_66, r_balanced_67, r_balanced_70, r_balanced_71, r_balanced_72, r_balanced_73, r_balanced_76, r_balanced_79, r_balanced_80, r_balanced_83, r_balanced_84, r_balanced_87, r_balanced_88, r_balanced_91, r_balanced_94, r_balanced_95, r_balanced_98, r_balanced_99, r_balanced_100, r_balanced_101, r_balanced_102, r_balanced_103, r_balanced_106, r_balanced_107, r_balanced_108, r_balanced_109, r_balanced_110, r_balanced_111, r_balanced_114, r_balanced_115, r_balanced_116, r_balanced_119, r_balanced_120, r_balanced_123, r_balanced_124, r_balanced_125, r_balanced_126, r_balanced_127, r_balanced_128, r_balanced_129, r_balanced_130, r_balanced_132, r_balanced_133, r_balanced_134, r_balanced_135, r_balanced_136, r_balanced_139, r_balanced_140, r_balanced_142, r_balanced_143, r_balanced_144, r_balanced_147, r_balanced_148, r_balanced_149, r_balanced_151, r_balanced_152, r_balanced_155, r_balanced_158, r_balanced_159, r_balanced_162, r_balanced_163, r_balanced_164, q4', nI_clamp (show (0 : Nat) < 2 ^ 31 by decide), vp_in_i (show (0 : Nat) < 2 ^ 31 by decide), d0]
    refine ⟨fun _ => ⟨by decide, ?_⟩, fun h => absurd (by decide) h⟩
    subst hret
    rw [mI_e]
    refine ⟨T2, ι2, B2, sp2, k, F, rfl, hx, q2, hB, hsp2, ?_, hr, hF, hin, q10 k (by simp)⟩
    exact CH_tr (CH_i2 (CH_a2 (CH_a2 (CH_a2 hc1 (by decide)) (by decide)) (by decide)) (by decide)) hc (fun _ h => h) (fun _ h => h)
/-- new cells among a tree's pieces are new cells of the tree -/
theorem nwP_sub {T T' : sT} (h : ∀ c v, T c = some v → T' c = some v) : ∀ (t : tT) (n r : Nat) (F : List Nat), n ≤ 12 → tw T n t → rT T' t r F → (nwP (tps T t) (pcs T' n r)).Sublist F
  | .leaf, n, _, _, _, hw, _ => by cases n <;> exact hw.elim
  | .inner 0 x _ _ _, n, r, F, hn, hw, hr => by
    have hw : lbw T n x := by cases n <;> exact hw
    obtain ⟨h1, h2⟩ := hr
    rcases x with c | t | q
    · cases h1
      obtain ⟨-, -, a3, -⟩ := ext_wf h n r hw
      obtain ⟨-, -, b3, -⟩ := wf_le hn hw
      show (nwP ((pcs T 12 r).map .inl) (pcs T' n r)).Sublist F
      rw [a3, ← b3, nwP_olds]
      exact List.nil_sublist _
    · have h1 : T' r = some (.inl t) := h1
      rw [pcs_leaf h1, h2]
      exact List.Sublist.refl _
    · have h1 : T' r = some (.inr (.inr q)) := h1
      rw [pcs_slice h1, h2]
      exact List.Sublist.refl _
  | .inner (_ + 1) _ _ l s, 0, r, F, hn, hw, hr => hw.elim
  | .inner (_ + 1) _ _ l s, n + 1, r, F, hn, hw, hr => by
    obtain ⟨w1, w2, w3, w4, w5⟩ := hw
    obtain ⟨a, b, Fa, Fb, h1, h2, h3, h4⟩ := hr
    have i1 := nwP_sub h l n a Fa (by omega) w1 h2
    have i2 := nwP_sub h s n b Fb (by omega) w2 h3
    have hl := (rT_ok h l n a Fa (by omega) w1 h2).2.2.2.1
    rw [pcs_join h1, h4]
    show (nwP (tps T l ++ tps T s) (pcs T' n a ++ pcs T' n b)).Sublist _
    rw [nwP_app hl]
    exact (List.Sublist.append i1 i2).trans (List.sublist_cons_self _ _)
theorem isPc_nn {T : sT} {x : Nat} (h : isPc T x) : T x ≠ none := by
  rcases h with ⟨t, h, -⟩ | ⟨q, h, -⟩ <;> rw [h] <;> exact fun z => by cases z
theorem tx_max (x y : Nat) : max x y = if x < y then y else x := by split <;> omega
def joinF : List Nat := [0, 1, 2, 3, 5, 6, 7, 8, 21, 23, 24, 25, 26, 27, 28, 29, 30, 31]
set_option maxHeartbeats 4000000 in
theorem k_joined {T0 T1 : sT} {ι1 : Nat → Nat} {μ : rf_M} {B1 sp e sm dp : Nat} (hext : ∀ c v, T0 c = some v → T1 c = some v) (h : RR T1 ι1 μ B1 sp e) (h18 : μ.1 18 = nI sm) (hsm : sm ≤ 32) (h19 : μ.1 19 = nI dp) (hdp : dp ≤ 12) {ta tb : tT} {a b : Nat} {Fa Fb : List Nat} (wa : tw T0 12 ta) (wb : tw T0 12 tb) (ra : rT T1 ta a Fa) (rb : rT T1 tb b Fb) (nd : (Fa ++ Fb).Nodup) (hlt : ∀ x ∈ Fa ++ Fb, x < B1) (hl : (ttx T0 ta).length + (ttx T0 tb).length ≤ 120) (hsp : 122 ≤ sp) (he : e + 34 ≤ 81920) :
    P_joined [.inr (some 39), .inl (nI (ι1 a)), .inl (nI (ι1 b))] μ 0 0 (mI (fun r μ' => ∃ (T2 : sT) (ι2 : Nat → Nat) (B2 sp2 e2 k : Nat) (F : List Nat), r = nI (ι2 k) ∧ BX T1 ι1 T2 ι2 ∧ RR T2 ι2 μ' B2 sp2 e2 ∧ B1 ≤ B2 ∧ sp ≤ sp2 + 121 ∧ e2 ≤ e + 34 ∧ CH joinF μ μ' ∧ rT T2 (joinT T0 sm dp ta tb) k F ∧ F.Nodup ∧ (∀ x ∈ F, x ∈ Fa ++ Fb ∨ (B1 ≤ x ∧ x < B2)))) := by
  obtain ⟨wa1, wa2, wa3, wa4⟩ := rT_ok hext ta 12 a Fa (Nat.le_refl _) wa ra
  obtain ⟨wb1, wb2, wb3, wb4⟩ := rT_ok hext tb 12 b Fb (Nat.le_refl _) wb rb
  have nn : ∀ x, wf T1 12 x → T1 x ≠ none := fun x hx z => by simp [wf, z] at hx
  obtain ⟨va, hva⟩ := Option.ne_none_iff_exists'.mp (nn a wa1)
  obtain ⟨vb, hvb⟩ := Option.ne_none_iff_exists'.mp (nn b wb1)
  obtain ⟨ga, -, sa⟩ := h.1 a va hva
  obtain ⟨gb, -, sb⟩ := h.1 b vb hvb
  obtain ⟨ua1, ua2, ua3, ua4, -⟩ := wf_up 12 a wa1
  obtain ⟨ub1, ub2, ub3, ub4, -⟩ := wf_up 12 b wb1
  rw [ua2, wa2] at sa
  rw [ub2, wb2] at sb
  have hTB : T1 B1 = none := h.2.2.2.1 B1 (Nat.le_refl _)
  refine e_joined _ _ μ _ ?_
  simp only [r_joined_0, r_joined_1, r_joined_4, r_joined_5, r_joined_6, r_joined_9, r_joined_10, r_joined_11, r_joined_12, r_joined_15, r_joined_16, r_joined_17, r_joined_20, r_joined_21, r_joined_22, r_joined_23, r_joined_26, r_joined_27, r_joined_28, r_joined_29, r_joined_32, r_joined_33, r_joined_34, r_joined_35, r_joined_36, r_joined_39, r_joined_42, r_joined_43, r_joined_44, r_joined_45, r_joined_48, r_joined_49, r_joined_50, r_joined_51, r_joined_52, r_joined_53, r_joined_54, r_joined_57, r_joined_58, r_joined_61, r_joined_62, r_joined_63, r_joined_64, r_joined_65, r_joined_68, r_joined_69, r_joined_70, r_joined_71, r_joined_74, r_joined_75, r_joined_78, r_joined_81, r_joined_82, r_joined_85, r_joined_88, r_joined_89, nI_clamp (show ι1 a < 2 ^ 31 by omega), vp_in_i (show ι1 a < 2 ^ 31 by omega), nI_clamp (show ι1 b < 2 ^ 31 by omega), vp_in_i (show ι1 b < 2 ^ 31 by omega), ga, gb, true_and, sa, sb, h18, nI_add, nI_z (show (ttx T0 tb).length < 2 ^ 31 by omega), nI_z (show (ttx T0 ta).length < 2 ^ 31 by omega), nI_ltI (show sm < 2 ^ 31 by omega) (show (ttx T0 ta).length + (ttx T0 tb).length < 2 ^ 31 by omega)]
  by_cases hb0 : ttx T0 tb = []
  · have hz : (ttx T0 tb).length = 0 := by rw [hb0]; rfl
    refine ⟨fun hne => absurd hz hne, fun _ => ?_⟩
    rw [mI_e]
    refine ⟨T1, ι1, B1, sp, e, a, Fa, rfl, BX_rf _ _, h, Nat.le_refl _, by omega, by omega, CH_rf _ _, ?_, (List.nodup_append.mp nd).1, fun x hx => Or.inl (List.mem_append_left _ hx)⟩
    unfold joinT
    rw [if_pos hb0]
    exact ra
  have hbl : ¬ (ttx T0 tb).length = 0 := fun z => hb0 (List.length_eq_zero_iff.mp z)
  refine ⟨fun _ => ?_, fun hne => absurd hbl hne⟩
  by_cases ha0 : ttx T0 ta = []
  · have hz : (ttx T0 ta).length = 0 := by rw [ha0]; rfl
    refine ⟨fun hne => absurd hz hne, fun _ => ?_⟩
    rw [mI_e]
    refine ⟨T1, ι1, B1, sp, e, b, Fb, rfl, BX_rf _ _, h, Nat.le_refl _, by omega, by omega, CH_rf _ _, ?_, (List.nodup_append.mp nd).2.1, fun x hx => Or.inl (List.mem_append_right _ hx)⟩
    unfold joinT
    rw [if_neg hb0, if_pos ha0]
    exact rb
  have hal : ¬ (ttx T0 ta).length = 0 := fun z => ha0 (List.length_eq_zero_iff.mp z)
  refine ⟨fun _ => ?_, fun hne => absurd hal hne⟩
  refine ⟨fun hgt => ?_, fun hle => ?_⟩
  · -- a new join
    refine ⟨_, k_newJoin h (by omega) wa1 wb1 (by rw [wa2]; exact ha0) (by rw [wb2]; exact hb0) (by rw [wa2, wb2]; exact hl), ?_⟩
    rintro r s1 ⟨i, rfl, hi, hc1, hR1⟩
    have hx1 : BX T1 ι1 (va_up T1 B1 (some (.inr (.inl (a, b))))) (va_up ι1 B1 i) := BX_up hTB
    generalize hT2 : va_up T1 B1 (some (.inr (.inl (a, b)))) = T2 at hR1 hx1
    generalize hι2 : va_up ι1 B1 i = ι2 at hR1 hx1
    have hT2B : T2 B1 = some (.inr (.inl (a, b))) := by rw [← hT2]; exact va_up_self _ _ _
    have hι2B : ι2 B1 = i := by rw [← hι2]; exact va_up_self _ _ _
    have hw13 : wf T2 13 B1 := hR1.2.2.1 B1 (by rw [hT2B]; exact fun z => by cases z)
    obtain ⟨xa1, xa2, xa3, xa4, -⟩ := ext_wf hx1.1 12 a wa1
    obtain ⟨xb1, xb2, xb3, xb4, -⟩ := ext_wf hx1.1 12 b wb1
    have hdep : dep T2 13 B1 = 1 + max (tdp T0 ta) (tdp T0 tb) := by
      rw [show (13 : Nat) = 12 + 1 from rfl, dep_join hT2B, xa4, xb4, wa3, wb3]
    have hpcs : pcs T2 13 B1 = pcs T1 12 a ++ pcs T1 12 b := by
      rw [show (13 : Nat) = 12 + 1 from rfl, pcs_join hT2B, xa3, xb3]
    have hdep13 := wf_dep (T := T2) 13 B1
    rw [← hι2B]
    refine ⟨_, k_layPieces hR1.1 hw13, ?_⟩
    rintro r s2 ⟨rfl, hc2, h24, h23⟩
    have hR2 : RR T2 ι2 s2 (B1 + 1) (sp - 1) e := RR_ch hR1 hc2 (by decide)
    have g19 : s2.1 19 = nI dp := by rw [(hc2 19 (by decide)).1, (hc1 19 (by decide)).1, h19]
    have hcc : CH joinF μ s2 := CH_tr hc1 hc2 (by decide) (by decide)
    simp only [g19, hdep, nI_leI (show 1 + max (tdp T0 ta) (tdp T0 tb) < 2 ^ 31 by omega) (show dp < 2 ^ 31 by omega), mI_e]
    refine ⟨fun hd => ?_, fun hd => ?_⟩
    · refine ⟨T2, ι2, B1 + 1, sp - 1, e, B1, B1 :: (Fa ++ Fb), rfl, hx1, hR2, by omega, by omega, by omega, hcc, ?_, ?_, ?_⟩
      · unfold joinT
        rw [if_neg hb0, if_neg ha0, if_neg (by omega), if_pos hd]
        exact ⟨a, b, Fa, Fb, hT2B, rT_ext hx1.1 _ _ _ ra, rT_ext hx1.1 _ _ _ rb, rfl⟩
      · refine List.nodup_cons.mpr ⟨fun hz => ?_, nd⟩
        have := hlt _ hz
        omega
      · intro x hx
        rcases List.mem_cons.mp hx with hx | hx
        · exact Or.inr (by omega)
        · exact Or.inl hx
    · obtain ⟨pa1, pa2, pa3⟩ := tps_okL ta 12 (Nat.le_refl _) wa ha0
      obtain ⟨pb1, pb2, pb3⟩ := tps_okL tb 12 (Nat.le_refl _) wb hb0
      have hf : (tps T0 ta ++ tps T0 tb).flatMap (lbt T0) = ttx T0 ta ++ ttx T0 tb := by rw [List.flatMap_append, pa2, pb2]
      have hok : ∀ x ∈ tps T0 ta ++ tps T0 tb, okL T0 x := fun x hx => (List.mem_append.mp hx).elim (pa1 x) (pb1 x)
      have h120 : ((tps T0 ta ++ tps T0 tb).flatMap (lbt T0)).length ≤ 120 := by rw [hf, List.length_append]; exact hl
      have hn := fm_len (T := T0) (tps T0 ta ++ tps T0 tb) (fun x hx => (hok x hx).2)
      have hLR : LbR T1 (tps T0 ta ++ tps T0 tb) (pcs T1 12 a ++ pcs T1 12 b) := LbR_app wa4 wb4
      have hsl : (nwP (tps T0 ta ++ tps T0 tb) (pcs T1 12 a ++ pcs T1 12 b)).Sublist (Fa ++ Fb) := by
        rw [nwP_app wa4.1]
        exact List.Sublist.append (nwP_sub hext ta 12 a Fa (Nat.le_refl _) wa ra) (nwP_sub hext tb 12 b Fb (Nat.le_refl _) wb rb)
      rw [hpcs] at h24 h23
      refine ⟨_, k_balanced (T0 := T0) (L := tps T0 ta ++ tps T0 tb) (P := pcs T1 12 a ++ pcs T1 12 b) (fun c v hc => hx1.1 c v (hext c v hc)) hR2 hok (by rw [List.length_append]; omega) h120 (LbR_ext hx1.1 hLR) ?_ h24 h23 (by omega) (hsl.nodup nd) (fun x hx => by have := hlt x (hsl.subset hx); omega), ?_⟩
      · intro x hx
        rcases List.mem_append.mp hx with hx | hx
        · exact ext_nn hx1.1 (isPc_nn (pcs_isPc 12 a wa1 x hx))
        · exact ext_nn hx1.1 (isPc_nn (pcs_isPc 12 b wb1 x hx))
      · rintro r s3 ⟨T3, ι3, B3, sp3, k, F, rfl, hx3, hR3, hB3, hsp3, hc3, hr3, hF3, hin3, -⟩
        refine ⟨T3, ι3, B3, sp3, e, k, F, rfl, BX_tr hx1 hx3, hR3, by omega, by omega, by omega, CH_tr hcc hc3 (fun _ h => h) (by decide), ?_, hF3, ?_⟩
        · unfold joinT
          rw [if_neg hb0, if_neg ha0, if_neg (by omega), if_neg hd]
          exact hr3
        · intro x hx
          rcases hin3 x hx with hx | hx
          · exact Or.inl (hsl.subset hx)
          · exact Or.inr (by omega)
  · -- a new leaf
    have hX := h.x
    refine ⟨_, k_layText (pre := []) h.1 hX ua1 (AP_nil _) (by simp), ?_⟩
    rintro r s1 ⟨rfl, hc1, -, hap1⟩
    rw [List.nil_append, ua2, wa2] at hap1
    have hR1 : RR T1 ι1 s1 B1 sp e := RR_ch h hc1 (by decide)
    rw [ua2, wa2]
    refine ⟨_, k_layText (pre := ttx T0 ta) hR1.1 hR1.x ub1 hap1 (by omega), ?_⟩
    rintro r s2 ⟨rfl, hc2, -, hap2⟩
    rw [ub2, wb2] at hap2
    have hR2 : RR T1 ι1 s2 B1 sp e := RR_ch hR1 hc2 (by decide)
    rw [ub2, wb2, nI_add]
    have hokt : okt (ttx T0 ta ++ ttx T0 tb) := by
      refine ⟨by rw [List.length_append]; exact hl, fun x hx => ?_⟩
      rcases List.mem_append.mp hx with hx | hx
      · exact (tw_okt ta 12 (Nat.le_refl _) wa).2 x hx
      · exact (tw_okt tb 12 (Nat.le_refl _) wb).2 x hx
    rw [← List.length_append]
    have hlen : (ttx T0 ta ++ ttx T0 tb).length ≤ 32 := by rw [List.length_append]; omega
    refine ⟨_, k_newLeaf hR2 (by omega) hokt hap2 (by omega), ?_⟩
    rintro r s3 ⟨i, rfl, hi, hc3, hR3⟩
    rw [mI_e]
    refine ⟨_, _, B1 + 1, sp - 1, _, B1, [B1], by rw [va_up_self], BX_up hTB, hR3, by omega, by omega, by omega, CH_tr (CH_tr hc1 hc2 (l := joinF) (by decide) (by decide)) hc3 (fun _ h => h) (by decide), ?_, by simp, ?_⟩
    · unfold joinT
      rw [if_neg hb0, if_neg ha0, if_pos (by omega)]
      exact ⟨va_up_self _ _ _, rfl⟩
    · intro x hx
      cases List.mem_singleton.mp hx
      exact Or.inr (by omega)
