/-! ===== the class: cuts ===== -/
section
variable {sm dp lo tn st : Nat}
theorem q_cutLeaf {T0 T : sT} {σ : xS} {sp : List Nat} (hext : ∀ c v, T0 c = some v → T c = some v) (h : WS σ T sm dp lo tn st sp) (hlo : 1 ≤ lo ∧ lo ≤ 8) {bs f m : Nat} {t : List Int32} (hb : T0 bs = some (.inl t)) (ht : okt t) (hm : 0 < m) (hfm : f + m ≤ t.length) (a b : Nat) (ha : 2 ≤ a) (hbb : 129 ≤ b) :
    P_X5_cutOutOfLeaf [.inr (some 11), .inr (some bs), .inl (nI f), .inl (nI m)] σ a b (mR (JP T sm dp lo tn st σ (cutL t lo bs f m))) := by
  obtain ⟨hC, hT, ⟨fi, fr, w1, w2, w3, w4, w5, w6⟩, ⟨g, r1, r2, r3, r4⟩, ⟨P0, hP⟩, ⟨L0, hL0⟩, hM, hsnd, hsp⟩ := id h
  have hbT := hext _ _ hb
  obtain ⟨b24, o, o1, o2, o3, -⟩ := hC bs _ hbT
  rw [tx_leaf hbT] at o3
  have l120 := ht.1
  have hmul : m * lo ≤ 120 * 8 := Nat.mul_le_mul (by omega) hlo.2
  refine e_X5_cutOutOfLeaf (nI f) (nI m) (some bs) 11 σ a b _ _ w1 rfl ?_
  have c2 : (nI 2 : Int32).toNatClampNeg = 2 := nI_clamp (by omega)
  have v2 : vp_in (nI 2) 3 := (vp_in_i (by omega)).mpr (by omega)
  simp only [r_X5_cutOutOfLeaf_0, r_X5_cutOutOfLeaf_1, r_X5_cutOutOfLeaf_4, r_X5_cutOutOfLeaf_5, r_X5_cutOutOfLeaf_6, r_X5_cutOutOfLeaf_9, r_X5_cutOutOfLeaf_10, r_X5_cutOutOfLeaf_11, r_X5_cutOutOfLeaf_12, r_X5_cutOutOfLeaf_13, r_X5_cutOutOfLeaf_16, r_X5_cutOutOfLeaf_19, r_X5_cutOutOfLeaf_20, r_X5_cutOutOfLeaf_21, r_X5_cutOutOfLeaf_22, r_X5_cutOutOfLeaf_25, r_X5_cutOutOfLeaf_26, r_X5_cutOutOfLeaf_27, r_X5_cutOutOfLeaf_30, r_X5_cutOutOfLeaf_31, r_X5_cutOutOfLeaf_32, r_X5_cutOutOfLeaf_33, r_X5_cutOutOfLeaf_37, r_X5_cutOutOfLeaf_40, r_X5_cutOutOfLeaf_43, sN, sS, true_and, xo w1, w2, w4, xg r1, v2, c2, r4, xo o1, o2, o3, pk_mul, nI_ltI (show m * lo < 2 ^ 31 by omega) (show t.length < 2 ^ 31 by omega)]
  refine ⟨fun hlt => ?_, fun hge => ?_⟩
  · refine ⟨_, q_readPart (t := 15) (by omega) hbT l120 hfm hC hL0, ?_⟩
    rintro s1 ⟨f1, t1⟩
    have hW1 : WS s1 T sm dp lo tn st sp := WS_x h f1 (fun k hk => by simp at hk; omega) (fun k hk => by simp at hk; omega) ⟨P0, PCS_f hP f1 (by omega) (by simp) (by simp)⟩ ⟨_, t1⟩
    have kp1 : KP T σ s1 := KP_x f1 (fun k hk => by simp at hk; subst hk; exact XC_24 hC (by omega))
    have yf1 : YF σ s1 := YF_x f1 (fun k hk _ => by simp at hk; omega) (fun k hk _ => by simp at hk; omega) (fun k hk => by simp at hk)
    obtain ⟨-, -, ⟨fi1, fr1, y1', y2', y3', y4', -⟩, -⟩ := id hW1
    rw [r_X5_cutOutOfLeaf_36]
    simp only [r_X5_cutOutOfLeaf_37, r_X5_cutOutOfLeaf_40, xo y1', y4', true_and]
    have hlen : ((t.drop f).take m).length = m := by rw [List.length_take, List.length_drop]; omega
    have hokt : okt ((t.drop f).take m) := ⟨by omega, fun z hz => ht.2 z (List.mem_of_mem_drop (List.mem_of_mem_take hz))⟩
    refine ⟨2, 9 + ((t.drop f).take m).length, _, by omega, by omega, q_leaf t1 (by omega), ?_⟩
    intro r s2 hp
    obtain ⟨c, rfl, hTc, hW2, f2⟩ := leaf_in hW1 hokt hp
    rw [r_X5_cutOutOfLeaf_43, mR_e]
    refine ⟨c, _, sp, [c], rfl, ext_up hTc _, hW2, KP_tr kp1 (KP_x f2 (fun k hk => by simp at hk)), YF_tr yf1 (YF_x f2 (fun k hk => by simp at hk) (fun k hk => by simp at hk) (fun k hk => by simp at hk)), ?_, by simp, fun z hz => by simp at hz; rw [hz]; exact hTc, ?_⟩
    · unfold cutL
      rw [if_pos hlt]
      exact ⟨va_up_self _ _ _, rfl⟩
    · exact MN_nw (y := .inr (.inl ((t.drop f).take m))) (x := c) (va_up_self _ _ _)
  · have hle8 : m * lo ≤ m * 8 := Nat.mul_le_mul_left m hlo.2
    have hq : oks T (bs, f, m) := ⟨t, hbT, ht, hfm, hm, by show t.length ≤ 8 * m; omega⟩
    refine ⟨1, 9, _, by omega, by omega, q_slice σ bs f m, ?_⟩
    intro r s2 hp
    obtain ⟨c, rfl, hTc, hW2, f2⟩ := slice_in h hq hp
    rw [mR_e]
    refine ⟨c, _, sp, [c], rfl, ext_up hTc _, hW2, KP_x f2 (fun k hk => by simp at hk), YF_x f2 (fun k hk => by simp at hk) (fun k hk => by simp at hk) (fun k hk => by simp at hk), ?_, by simp, fun z hz => by simp at hz; rw [hz]; exact hTc, ?_⟩
    · unfold cutL
      rw [if_neg hge]
      exact ⟨va_up_self _ _ _, rfl⟩
    · exact MN_nw (y := .inr (.inr (bs, f, m))) (x := c) (va_up_self _ _ _)
theorem XC_many {T0 T : sT} {σ : xS} (hext : ∀ c v, T0 c = some v → T c = some v) (hC : XC σ T) {n c : Nat} (hn : n ≤ 12) (hw : wf T0 n c) : ∃ v o, T0 c = some v ∧ T c = some v ∧ 24 ≤ c ∧ σ.1 c = some o ∧ o.1 = 0 ∧ o.2.1 1 = nI (tx T0 n c).length ∧ xck σ o v := by
  obtain ⟨v, hv⟩ := Option.ne_none_iff_exists'.mp (wf_nn hw)
  obtain ⟨h24, o, o1, o2, o3, o4⟩ := hC c v (hext c v hv)
  obtain ⟨a1, a2, -⟩ := ext_wf hext n c hw
  rw [(wf_le (show n ≤ 13 by omega) a1).2.1, a2] at o3
  exact ⟨v, o, hv, hext c v hv, h24, o1, o2, o3, o4⟩
theorem q_cutBase {T0 T : sT} {σ : xS} {sp : List Nat} (hext : ∀ c v, T0 c = some v → T c = some v) (h : WS σ T sm dp lo tn st sp) (hlo : 1 ≤ lo ∧ lo ≤ 8) {n c f m lv d : Nat} (hn : n ≤ 12) (hw : wf T0 n c) (hfm : f + m ≤ (tx T0 n c).length) (hlv : lv ≤ 40) (hd : m = 0 ∨ m = (tx T0 n c).length ∨ ¬ isJn T0 c) (a b : Nat) (ha : 2 ≤ a) (hb : 129 ≤ b) :
    P_X5_cutOut (d + 1) [.inr (some 11), .inr (some c), .inl (nI f), .inl (nI m), .inl (nI lv)] σ a b (mR (JP T sm dp lo tn st σ (cutT T0 sm dp lo n c f m))) := by
  obtain ⟨hC, hT, ⟨fi, fr, w1, w2, w3, w4, w5, w6⟩, ⟨g, r1, r2, r3, r4⟩, ⟨P0, hP⟩, ⟨L0, hL0⟩, hM, hsnd, hsp⟩ := id h
  obtain ⟨v, o, hv, hvT, h24, o1, o2, o3, o4⟩ := XC_many hext hC hn hw
  have l120 := (wf_okt n c hw).1
  refine e_X5_cutOut d (nI f) (nI m) (nI lv) (some c) 11 σ a b _ _ w1 rfl ?_
  have t0 : (nI 0 : Int32).toInt = 0 := by decide
  have t2 : (nI 2 : Int32).toInt = 2 := by decide
  simp only [r_X5_cutOut_0, r_X5_cutOut_1, r_X5_cutOut_4, r_X5_cutOut_5, r_X5_cutOut_8, r_X5_cutOut_10, r_X5_cutOut_12, r_X5_cutOut_19, r_X5_cutOut_20, r_X5_cutOut_21, r_X5_cutOut_24, r_X5_cutOut_27, r_X5_cutOut_28, r_X5_cutOut_29, r_X5_cutOut_30, r_X5_cutOut_33, sN, sS, true_and, xo o1, o2, o3, nI_zle m (by omega), nI_leI (show lv < 2 ^ 31 by omega) (show 40 < 2 ^ 31 by omega), nI_eq (show m < 2 ^ 31 by omega) (show (tx T0 n c).length < 2 ^ 31 by omega), mR_e]
  by_cases h0 : m = 0
  · subst h0
    refine ⟨fun _ => ?_, fun z => absurd rfl z⟩
    rw [r_X5_cutOut_15]
    have hokt : okt [] := ⟨by simp, fun z hz => by simp at hz⟩
    refine ⟨2, 9, _, by omega, by omega, q_emptyLeaf σ, ?_⟩
    rintro r s2 ⟨k, q, g, fi, fr, e1, e2, e3, -, e4, e5⟩
    obtain ⟨k, rfl, hTc, hW2, f2⟩ := leaf_in h hokt ⟨k, q, g, fi, fr, e1, e2, e3, e4, AP_nil _, e5⟩
    rw [r_X5_cutOut_18, mR_e]
    refine ⟨k, _, sp, [k], rfl, ext_up hTc _, hW2, KP_x f2 (fun k hk => by simp at hk), YF_x f2 (fun k hk => by simp at hk) (fun k hk => by simp at hk) (fun k hk => by simp at hk), ?_, by simp, fun z hz => by simp at hz; rw [hz]; exact hTc, ?_⟩
    · rw [cutT_0]
      exact ⟨va_up_self _ _ _, rfl⟩
    · exact MN_nw (y := .inr (.inl [])) (x := k) (va_up_self _ _ _)
  refine ⟨fun z => absurd z h0, fun _ => ⟨fun _ => ?_, fun z => absurd hlv z⟩⟩
  by_cases h1 : m = (tx T0 n c).length
  · refine ⟨fun z => absurd h1 z, fun _ => ?_⟩
    subst h1
    rw [cutT_all h0]
    exact ⟨c, T, sp, [], rfl, fun _ _ z => z, h, KP_rf _ _, YF_rf _, ⟨rfl, rfl⟩, List.nodup_nil, fun z hz => by simp at hz, fun z hz => by simp at hz⟩
  refine ⟨fun _ => ?_, fun z => absurd h1 z⟩
  rcases v with t | q | q
  · have ht := (wf_leaf hv).mp hw
    rw [tx_leaf hv] at hfm
    rw [o4.1, t0]
    refine ⟨fun z => absurd z (by decide), fun _ => ⟨fun z => absurd z (by decide), fun _ => ?_⟩⟩
    rw [r_X5_cutOut_86]
    simp only [r_X5_cutOut_87, r_X5_cutOut_88, r_X5_cutOut_89, r_X5_cutOut_90, r_X5_cutOut_93, mR_e]
    rw [cutT_leaf hv h0 h1]
    exact ⟨a, b, _, Nat.le_refl _, Nat.le_refl _, q_cutLeaf hext h hlo hv ht (by omega) hfm a b ha hb, fun r s' hr => hr⟩
  · rcases hd with hd | hd | hd
    · exact absurd hd h0
    · exact absurd hd h1
    · exact absurd ⟨q, hv⟩ hd
  · have hq := (wf_slice hv).mp hw
    obtain ⟨tb, q1, q2, q3, q4, q5⟩ := id hq
    rw [tx_slice hv, oks_len hq] at hfm
    rw [o4.1, t2]
    refine ⟨fun z => absurd z (by decide), fun _ => ⟨fun _ => ?_, fun z => absurd rfl z⟩⟩
    rw [r_X5_cutOut_70]
    simp only [r_X5_cutOut_71, r_X5_cutOut_72, r_X5_cutOut_75, r_X5_cutOut_76, r_X5_cutOut_79, r_X5_cutOut_80, r_X5_cutOut_81, r_X5_cutOut_82, r_X5_cutOut_85, xo o1, o2, true_and, o4.2.1, o4.2.2.2.2, nI_add, mR_e]
    have e : lfT T0 q.1 = tb := by simp only [lfT, q1]
    rw [cutT_slice hv h0 h1, e]
    exact ⟨a, b, _, Nat.le_refl _, Nat.le_refl _, q_cutLeaf hext h hlo q1 q2 (by omega) (by omega) a b ha hb, fun r s' hr => hr⟩
set_option maxHeartbeats 4000000 in
theorem q_cutOut {T0 : sT} (hsm : sm ≤ 32) (hdp : dp ≤ 12) (hlo : 1 ≤ lo ∧ lo ≤ 8) (htn : tn < 2 ^ 31) : ∀ (n e c f m lv : Nat) (σ : xS) (T : sT) (sp : List Nat) (a b : Nat), n ≤ 12 → (∀ c v, T0 c = some v → T c = some v) → WS σ T sm dp lo tn st sp → MO σ T0 tn → wf T0 n c → f + m ≤ (tx T0 n c).length → lv + n ≤ 40 → 3 * jn T0 n c f m + sn T0 sm dp lo n c f m + 2 ≤ a → 170 * jn T0 n c f m + 9 * sn T0 sm dp lo n c f m + 129 ≤ b →
    P_X5_cutOut (2 * n + e + 1) [.inr (some 11), .inr (some c), .inl (nI f), .inl (nI m), .inl (nI lv)] σ a b (mR (JP T sm dp lo tn st σ (cutT T0 sm dp lo n c f m))) := by
  intro n
  induction n with
  | zero =>
    intro e c f m lv σ T sp a b hn hext h hO hw hfm hlv ha hb
    refine q_cutBase hext h hlo hn hw hfm (by omega) (Or.inr (Or.inr fun ⟨q, hq⟩ => wf_join0 hq hw)) a b (by omega) (by omega)
  | succ n ih =>
    intro e c f m lv σ T sp a b hn hext h hO hw hfm hlv ha hb
    by_cases h0 : m = 0
    · exact q_cutBase hext h hlo hn hw hfm (by omega) (Or.inl h0) a b (by omega) (by omega)
    by_cases h1 : m = (tx T0 (n + 1) c).length
    · exact q_cutBase hext h hlo hn hw hfm (by omega) (Or.inr (Or.inl h1)) a b (by omega) (by omega)
    by_cases hJ : ¬ isJn T0 c
    · exact q_cutBase hext h hlo hn hw hfm (by omega) (Or.inr (Or.inr hJ)) a b (by omega) (by omega)
    obtain ⟨q, hq⟩ := Classical.not_not.mp hJ
    obtain ⟨g1, g2, g3, g4, g5⟩ := (wf_join hq).mp hw
    have l120 := (wf_okt (n + 1) c hw).1
    obtain ⟨hC, hT, ⟨fi, fr, w1, w2, w3, w4, w5, w6⟩, -⟩ := id h
    obtain ⟨v, o, hv, hvT, h24, o1, o2, o3, o4⟩ := XC_many hext hC hn hw
    rw [hq] at hv
    cases hv
    obtain ⟨k1, k2, k3, k4⟩ := o4
    obtain ⟨vl, ol, -, -, -, ol1, ol2, ol3, -⟩ := XC_many hext hC (show n ≤ 12 by omega) g1
    rw [cutT_join hq h0 h1]
    rw [jn_join hq h0 h1, sn_join hq h0 h1] at ha hb
    rw [show 2 * (n + 1) + e + 1 = ((2 * n + e + 1) + 1) + 1 by omega]
    refine e_X5_cutOut (2 * n + e + 1 + 1) (nI f) (nI m) (nI lv) (some c) 11 σ a b _ _ w1 rfl ?_
    have t1 : (nI 1 : Int32).toInt = 1 := by decide
    simp only [r_X5_cutOut_0, r_X5_cutOut_1, r_X5_cutOut_4, r_X5_cutOut_5, r_X5_cutOut_8, r_X5_cutOut_10, r_X5_cutOut_12, r_X5_cutOut_19, r_X5_cutOut_20, r_X5_cutOut_21, r_X5_cutOut_24, r_X5_cutOut_29, r_X5_cutOut_30, r_X5_cutOut_33, sN, sS, true_and, xo o1, o2, o3, k1, t1, nI_zle m (by omega), nI_leI (show lv < 2 ^ 31 by omega) (show 40 < 2 ^ 31 by omega), nI_eq (show m < 2 ^ 31 by omega) (show (tx T0 (n + 1) c).length < 2 ^ 31 by omega)]
    refine ⟨fun z => absurd z h0, fun _ => ⟨fun _ => ⟨fun _ => ⟨fun _ => ?_, fun z => absurd trivial z⟩, fun z => absurd h1 z⟩, fun z => absurd (by omega) z⟩⟩
    rw [tx_join hq, List.length_append] at hfm
    rw [r_X5_cutOut_60]
    simp only [r_X5_cutOut_61, r_X5_cutOut_62, r_X5_cutOut_63, r_X5_cutOut_64, r_X5_cutOut_66, r_X5_cutOut_69, mR_e]
    refine ⟨a, b, _, Nat.le_refl _, Nat.le_refl _, e_X5_cutOutOfJoin (2 * n + e + 1) (nI f) (nI m) (nI lv) (some c) 11 σ a b (mR (JP T sm dp lo tn st σ (if f + m ≤ (tx T0 n q.1).length then cutT T0 sm dp lo n q.1 f m else if (tx T0 n q.1).length ≤ f then cutT T0 sm dp lo n q.2 (f - (tx T0 n q.1).length) m else joinT T0 sm dp (cutT T0 sm dp lo n q.1 f ((tx T0 n q.1).length - f)) (cutT T0 sm dp lo n q.2 0 (f + m - (tx T0 n q.1).length))))) _ w1 rfl ?_, fun r s' hr => hr⟩
    simp only [r_X5_cutOutOfJoin_0, r_X5_cutOutOfJoin_1, r_X5_cutOutOfJoin_4, r_X5_cutOutOfJoin_7, r_X5_cutOutOfJoin_8, r_X5_cutOutOfJoin_11, r_X5_cutOutOfJoin_12, r_X5_cutOutOfJoin_15, r_X5_cutOutOfJoin_18, r_X5_cutOutOfJoin_20, r_X5_cutOutOfJoin_21, r_X5_cutOutOfJoin_22, r_X5_cutOutOfJoin_23, r_X5_cutOutOfJoin_25, r_X5_cutOutOfJoin_29, r_X5_cutOutOfJoin_30, r_X5_cutOutOfJoin_33, r_X5_cutOutOfJoin_34, r_X5_cutOutOfJoin_35, r_X5_cutOutOfJoin_37, r_X5_cutOutOfJoin_38, r_X5_cutOutOfJoin_39, r_X5_cutOutOfJoin_42, r_X5_cutOutOfJoin_43, r_X5_cutOutOfJoin_44, r_X5_cutOutOfJoin_46, r_X5_cutOutOfJoin_50, r_X5_cutOutOfJoin_51, r_X5_cutOutOfJoin_54, r_X5_cutOutOfJoin_55, r_X5_cutOutOfJoin_57, r_X5_cutOutOfJoin_58, r_X5_cutOutOfJoin_59, r_X5_cutOutOfJoin_61, r_X5_cutOutOfJoin_62, r_X5_cutOutOfJoin_63, r_X5_cutOutOfJoin_66, r_X5_cutOutOfJoin_68, r_X5_cutOutOfJoin_69, r_X5_cutOutOfJoin_72, r_X5_cutOutOfJoin_73, r_X5_cutOutOfJoin_75, r_X5_cutOutOfJoin_76, r_X5_cutOutOfJoin_77, r_X5_cutOutOfJoin_79, r_X5_cutOutOfJoin_80, r_X5_cutOutOfJoin_81, r_X5_cutOutOfJoin_84, r_X5_cutOutOfJoin_87, r_X5_cutOutOfJoin_88, r_X5_cutOutOfJoin_91, r_X5_cutOutOfJoin_92, r_X5_cutOutOfJoin_93, r_X5_cutOutOfJoin_94, r_X5_cutOutOfJoin_95, r_X5_cutOutOfJoin_97, r_X5_cutOutOfJoin_98, r_X5_cutOutOfJoin_100, r_X5_cutOutOfJoin_101, r_X5_cutOutOfJoin_102, r_X5_cutOutOfJoin_105, r_X5_cutOutOfJoin_108, r_X5_cutOutOfJoin_110, r_X5_cutOutOfJoin_112, r_X5_cutOutOfJoin_115, xo o1, o2, k2, sN, sS, and_true, true_and, xo ol1, ol2, ol3, nI_add, nI_ltI (show (tx T0 n q.1).length < 2 ^ 31 by omega) (show f + m < 2 ^ 31 by omega), nI_ltI (show f < 2 ^ 31 by omega) (show (tx T0 n q.1).length < 2 ^ 31 by omega)]
    refine ⟨fun hgt => ⟨fun hfl => ?_, fun hfl => ?_⟩, fun hle => ?_⟩
    · -- both
      simp only [if_neg (show ¬ f + m ≤ (tx T0 n q.1).length by omega), if_neg (show ¬ (tx T0 n q.1).length ≤ f by omega)] at ha hb ⊢
      rw [r_X5_cutOutOfJoin_67]
      simp only [r_X5_cutOutOfJoin_68, r_X5_cutOutOfJoin_69, r_X5_cutOutOfJoin_72, r_X5_cutOutOfJoin_73, r_X5_cutOutOfJoin_75, r_X5_cutOutOfJoin_76, r_X5_cutOutOfJoin_77, r_X5_cutOutOfJoin_79, r_X5_cutOutOfJoin_80, r_X5_cutOutOfJoin_81, r_X5_cutOutOfJoin_84, xo o1, o2, k2, true_and, nI_add, pk_sub (show f ≤ (tx T0 n q.1).length by omega)]
      obtain ⟨ca1, ca2⟩ := cutT_ok (T := T0) (sm := sm) (dp := dp) (lo := lo) hdp hlo n q.1 f ((tx T0 n q.1).length - f) (by omega) g1 (by omega)
      obtain ⟨cb1, cb2⟩ := cutT_ok (T := T0) (sm := sm) (dp := dp) (lo := lo) hdp hlo n q.2 0 (f + m - (tx T0 n q.1).length) (by omega) g2 (by omega)
      refine ⟨3 * jn T0 n q.1 f ((tx T0 n q.1).length - f) + sn T0 sm dp lo n q.1 f ((tx T0 n q.1).length - f) + 2, 170 * jn T0 n q.1 f ((tx T0 n q.1).length - f) + 9 * sn T0 sm dp lo n q.1 f ((tx T0 n q.1).length - f) + 129, _, by omega, by omega, ih e q.1 f ((tx T0 n q.1).length - f) (lv + 1) σ T sp _ _ (by omega) hext h hO g1 (by omega) (by omega) (Nat.le_refl _) (Nat.le_refl _), ?_⟩
      rintro r s1 ⟨ka, Ta, spa, Fa, rfl, xa, hWa, kpa, yfa, rta, fna, foa, mna⟩
      have hexta : ∀ c v, T0 c = some v → Ta c = some v := fun c v z => xa c v (hext c v z)
      have o1a : s1.1 c = some o := kpa c o (by rw [hvT]; exact fun z => by cases z) o1
      rw [r_X5_cutOutOfJoin_86]
      simp only [r_X5_cutOutOfJoin_87, r_X5_cutOutOfJoin_88, r_X5_cutOutOfJoin_91, r_X5_cutOutOfJoin_92, r_X5_cutOutOfJoin_93, r_X5_cutOutOfJoin_94, r_X5_cutOutOfJoin_95, r_X5_cutOutOfJoin_97, r_X5_cutOutOfJoin_98, r_X5_cutOutOfJoin_100, r_X5_cutOutOfJoin_101, r_X5_cutOutOfJoin_102, r_X5_cutOutOfJoin_105, xo o1a, o2, k3, true_and, nI_add, pk_sub (show (tx T0 n q.1).length ≤ f + m by omega)]
      refine ⟨3 * jn T0 n q.2 0 (f + m - (tx T0 n q.1).length) + sn T0 sm dp lo n q.2 0 (f + m - (tx T0 n q.1).length) + 2, 170 * jn T0 n q.2 0 (f + m - (tx T0 n q.1).length) + 9 * sn T0 sm dp lo n q.2 0 (f + m - (tx T0 n q.1).length) + 129, _, by omega, by omega, ih e q.2 0 (f + m - (tx T0 n q.1).length) (lv + 1) s1 Ta spa _ _ (by omega) hexta hWa (MO_ext hO (KP_w kpa hext)) g2 (by omega) (by omega) (Nat.le_refl _) (Nat.le_refl _), ?_⟩
      rintro r s2 ⟨kb, Tb, spb, Fb, rfl, xb, hWb, kpb, yfb, rtb, fnb, fob, mnb⟩
      have hextb : ∀ c v, T0 c = some v → Tb c = some v := fun c v z => xb c v (hexta c v z)
      have nna := (rT_nn T0 hexta _ 12 ka Fa ca1 rta).2
      rw [r_X5_cutOutOfJoin_107]
      simp only [r_X5_cutOutOfJoin_108, r_X5_cutOutOfJoin_110, r_X5_cutOutOfJoin_112]
      have hTn : ∀ z, Ta z = none → T z = none := fun z hz => by
        cases hv : T z with
        | none => rfl
        | some v => rw [xa z v hv] at hz; cases hz
      refine ⟨_, _, _, Nat.le_refl _, Nat.le_refl _, q_joined (T0 := T0) (T1 := T) (T := Tb) hext (fun c v z => xb c v (xa c v z)) hT hWb (MO_ext hO (KP_w (KP_tr kpa (KP_w kpb xa)) hext)) hsm hdp htn (ta := cutT T0 sm dp lo n q.1 f ((tx T0 n q.1).length - f)) (tb := cutT T0 sm dp lo n q.2 0 (f + m - (tx T0 n q.1).length)) (Fa := Fa) (Fb := Fb) ca1 cb1 (rT_ext xb _ _ _ rta) rtb ?_ ?_ ?_ ?_ _ _ ?_ ?_, ?_⟩
      · refine List.nodup_append.mpr ⟨fna, fnb, fun z hz w hw hzw => ?_⟩
        subst hzw
        exact nna z hz (fob z hw)
      · intro z hz
        rcases List.mem_append.mp hz with hz | hz
        · exact foa z hz
        · exact hTn z (fob z hz)
      · intro z hz hj
        rcases List.mem_append.mp hz with hz | hz
        · exact MN_ext mna nna xb kpb z hz hj
        · exact mnb z hz hj
      · rw [ca2, cb2, List.length_take, List.length_take, List.length_drop, List.length_drop]; omega
      · omega
      · omega
      rintro r s3 ⟨k, T', sp', F, rfl, b1, b2, b3, b4, b5, b6, b7, b8⟩
      rw [r_X5_cutOutOfJoin_115, mR_e]
      exact ⟨k, T', sp', F, rfl, b1, b2, KP_tr kpa (KP_tr (KP_w kpb xa) b3), YF_tr yfa (YF_tr yfb b4), b5, b6, b7, b8⟩
    · -- the right one
      simp only [if_neg (show ¬ f + m ≤ (tx T0 n q.1).length by omega), if_pos (show (tx T0 n q.1).length ≤ f by omega)] at ha hb ⊢
      rw [r_X5_cutOutOfJoin_49]
      simp only [r_X5_cutOutOfJoin_50, r_X5_cutOutOfJoin_51, r_X5_cutOutOfJoin_54, r_X5_cutOutOfJoin_55, r_X5_cutOutOfJoin_57, r_X5_cutOutOfJoin_58, r_X5_cutOutOfJoin_59, r_X5_cutOutOfJoin_61, r_X5_cutOutOfJoin_62, r_X5_cutOutOfJoin_63, r_X5_cutOutOfJoin_66, xo o1, o2, k3, true_and, nI_add, pk_sub (show (tx T0 n q.1).length ≤ f by omega), mR_e]
      exact ⟨a, b, _, Nat.le_refl _, Nat.le_refl _, ih e q.2 (f - (tx T0 n q.1).length) m (lv + 1) σ T sp a b (by omega) hext h hO g2 (by omega) (by omega) ha hb, fun r s' hr => hr⟩
    · -- the left one
      simp only [if_pos (show f + m ≤ (tx T0 n q.1).length by omega)] at ha hb ⊢
      rw [r_X5_cutOutOfJoin_28]
      simp only [r_X5_cutOutOfJoin_29, r_X5_cutOutOfJoin_30, r_X5_cutOutOfJoin_33, r_X5_cutOutOfJoin_34, r_X5_cutOutOfJoin_35, r_X5_cutOutOfJoin_37, r_X5_cutOutOfJoin_38, r_X5_cutOutOfJoin_39, r_X5_cutOutOfJoin_42, xo o1, o2, k2, true_and, nI_add, mR_e]
      exact ⟨a, b, _, Nat.le_refl _, Nat.le_refl _, ih e q.1 f m (lv + 1) σ T sp a b (by omega) hext h hO g1 (by omega) (by omega) ha hb, fun r s' hr => hr⟩
end
