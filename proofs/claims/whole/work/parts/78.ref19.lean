/-! ===== what calls that read answer; sign, hash, told of the reference ===== -/
def scr : List Nat := [4, 21, 22, 23, 24, 25, 26, 27, 28, 29, 30, 31, 32, 33, 34, 35, 36, 37, 38]
def A_sign (T : sT) (sl : List Nat) (s i r : Int32) : Prop := (ix sl s = none → r = Int32.ofInt (-1)) ∧ ∀ c, ix sl s = some c → r = (ix (tx T 13 c) i).getD (Int32.ofInt (-6))
def A_hash (T : sT) (sl : List Nat) (s r : Int32) : Prop := (ix sl s = none → r = 0) ∧ ∀ c, ix sl s = some c → r = hsh (tx T 13 c)
def A_told (T : sT) (sl : List Nat) (s w r : Int32) : Prop := (ix sl s = none → r = Int32.ofInt (-1)) ∧ ∀ c, ix sl s = some c →
  ((w.toInt < 0 ∨ 6 < w.toInt) → r = Int32.ofInt (-2)) ∧ (w.toInt = 0 → r = nI (tx T 13 c).length) ∧ (w.toInt = 1 → r = nI (kd T c)) ∧ (w.toInt = 2 → r = nI (dep T 13 c)) ∧ (w.toInt = 3 → r = nI (pcs T 13 c).length) ∧
  (w.toInt = 4 → r = nI (dd (rl T 13 c)).length) ∧ (w.toInt = 5 → r = nI ((dd (rl T 13 c)).map (rm T)).sum) ∧ (w.toInt = 6 → r = if wd (tx T 13 c) then 1 else 0)
def A_piece (T : sT) (sl : List Nat) (s i w r : Int32) : Prop := (ix sl s = none → r = Int32.ofInt (-1)) ∧ ∀ c, ix sl s = some c →
  (¬ (nI 0 ≤ w ∧ w ≤ nI 3) → r = Int32.ofInt (-2)) ∧ ((nI 0 ≤ w ∧ w ≤ nI 3) → (ix (pcs T 13 c) i = none → r = Int32.ofInt (-6)) ∧ ∀ p, ix (pcs T 13 c) i = some p →
    (w = nI 0 → r = nI (tx T 13 p).length) ∧ (w = nI 1 → r = nI (match T p with | some (.inr (.inr q)) => q.2.1 | _ => 0)) ∧ (w = nI 2 → r = nI (match T p with | some (.inr (.inr q)) => (lfT T q.1).length | _ => (tx T 13 p).length)) ∧ (w = nI 3 → r = nI (fi (pcs T 13 c) p)))
def A_alike (T : sT) (sl : List Nat) (a b w r : Int32) : Prop := ((ix sl a = none ∨ ix sl b = none) → r = Int32.ofInt (-1)) ∧ ∀ c d, ix sl a = some c → ix sl b = some d →
  ((w.toInt < 0 ∨ 4 < w.toInt) → r = Int32.ofInt (-2)) ∧ (w.toInt = 0 → r = if tx T 13 c = tx T 13 d then 1 else 0) ∧ (w.toInt = 1 → r = if c = d then 1 else 0) ∧ (w.toInt = 2 → r = nI (lcp (tx T 13 c) (tx T 13 d))) ∧ (w.toInt = 3 → isPlc (tx T 13 c) (tx T 13 d) r) ∧ (w.toInt = 4 → (cfs (tx T 13 c) (tx T 13 d) ∧ r = 1) ∨ (¬ cfs (tx T 13 c) (tx T 13 d) ∧ r = 0))
def A_entry (T : sT) (sl en nu : List Nat) (i w r : Int32) : Prop := (¬ (nI 0 ≤ w ∧ w ≤ nI 2) → r = Int32.ofInt (-2)) ∧ ((nI 0 ≤ w ∧ w ≤ nI 2) → (ix en i = none → r = Int32.ofInt (-6)) ∧ ∀ c, ix en i = some c →
  (w = nI 0 → ∃ m, ix nu i = some m ∧ r = nI m) ∧ (w = nI 1 → r = nI (tx T 13 c).length) ∧ (w = nI 2 → r = nI (cnt sl c)))
def A_count (T : sT) (sl : List Nat) (im : Nat → Option (List Nat)) (en : List Nat) (ev : Nat) (dr : List Int32) (sm dp lo : Nat) (w r : Int32) : Prop :=
  ((w.toInt < 0 ∨ 12 < w.toInt ∨ (5 < w.toInt ∧ w.toInt < 10)) → r = Int32.ofInt (-2)) ∧ (w.toInt = 0 → r = nI (dd (sl.flatMap (rl T 13))).length) ∧ (w.toInt = 1 → r = nI ((dd (sl.flatMap (rl T 13))).map (rm T)).sum) ∧
  (w.toInt = 2 → r = nI en.length) ∧ (w.toInt = 3 → r = nI ev) ∧ (w.toInt = 4 → r = nI dr.length) ∧ (w.toInt = 5 → r = nI ((if im 0 = none then 0 else 1) + (if im 1 = none then 0 else 2))) ∧ (w.toInt = 10 → r = nI sm) ∧ (w.toInt = 11 → r = nI dp) ∧ (w.toInt = 12 → r = nI lo)
section
variable {T : sT} {ι : Nat → Nat} {μ : rf_M} {B sp e : Nat} {sl : List Nat} {im : Nat → Option (List Nat)} {en nu : List Nat} {ev : Nat} {dr : List Int32} {sm dp lo : Nat}
theorem in_row {t : List Int32} {i : Int32} (hl : t.length < 2 ^ 31) (h0 : 0 < t.length) : (nI 0 ≤ i ∧ i ≤ nI t.length - nI 1) ↔ ∃ j, i = nI j ∧ j < t.length := by
  rw [pk_sub h0]
  constructor
  · rintro ⟨h1, h2⟩
    rw [nI_0] at h1
    obtain ⟨j, hj, rfl⟩ := nI_of (x := i) (fun z => by
      have a := Int32.lt_iff_toInt_lt.mp z
      have b := Int32.le_iff_toInt_le.mp h1
      omega)
    rw [nI_leI hj (by omega)] at h2
    exact ⟨j, rfl, by omega⟩
  · rintro ⟨j, rfl, hj⟩
    exact ⟨(nI_leI (by omega) (by omega)).mpr (Nat.zero_le _), (nI_leI (by omega) (by omega)).mpr (by omega)⟩
/-- a number that is tried against a row's length less one -/
theorem in_len {α : Type} (t : List α) (hl : t.length < 2 ^ 31) (i : Int32) : (ix t i = none ∧ ¬ (nI 0 ≤ i ∧ i ≤ nI t.length - nI 1)) ∨ ∃ j x, i = nI j ∧ j < t.length ∧ t[j]? = some x ∧ ix t i = some x ∧ (nI 0 ≤ i ∧ i ≤ nI t.length - nI 1) := by
  rcases Nat.eq_zero_or_pos t.length with hz | hz
  · refine Or.inl ⟨?_, ?_⟩
    · rcases ix_cases t hl i with ⟨h, -⟩ | ⟨j, x, -, h, -⟩
      · exact h
      · omega
    · rw [hz]
      rintro ⟨h1, h2⟩
      have a := Int32.le_iff_toInt_le.mp h1
      have b := Int32.le_iff_toInt_le.mp h2
      have c : (nI 0 - nI 1 : Int32).toInt = -1 := by decide
      rw [nI_toInt (by omega)] at a
      rw [c] at b
      omega
  · rcases ix_cases t hl i with ⟨h1, h2⟩ | ⟨j, x, h1, h2, h3, h4⟩
    · refine Or.inl ⟨h1, ?_⟩
      rw [pk_sub hz]
      rintro ⟨g1, g2⟩
      have a := Int32.le_iff_toInt_le.mp g1
      have b := Int32.le_iff_toInt_le.mp g2
      rw [nI_toInt (by omega)] at a b
      rcases h2 with h2 | h2
      · have c := Int32.lt_iff_toInt_lt.mp h2
        have d : (0 : Int32).toInt = 0 := by decide
        omega
      · have c := Int32.le_iff_toInt_le.mp h2
        rw [nI_toInt (by omega)] at c
        omega
    · refine Or.inr ⟨j, x, h1, h2, h3, h4, ?_⟩
      rw [pk_sub hz, h1]
      exact ⟨(nI_leI (by omega) (by omega)).mpr (Nat.zero_le _), (nI_leI (by omega) (by omega)).mpr (by omega)⟩
theorem k_sign (h : MS T ι μ B sp e sl im en nu ev dr sm dp lo) (s i : Int32) : P_sign [.inr (some 39), .inl s, .inl i] μ 0 0 (mI (fun r μ' => CH scr μ μ' ∧ A_sign T sl s i r)) := by
  refine e_sign s i μ _ ?_
  simp only [r_sign_0, r_sign_1, r_sign_4, r_sign_7, r_sign_8, r_sign_9, r_sign_10, r_sign_11, r_sign_14, r_sign_15, r_sign_16, r_sign_17, r_sign_20, r_sign_21, r_sign_22, r_sign_23, r_sign_24, r_sign_25, r_sign_26, r_sign_29, r_sign_32, r_sign_33, r_sign_36, r_sign_37, r_sign_38, r_sign_41, r_sign_43]
  refine ⟨_, k_isSlot μ s, ?_⟩
  rintro r s' ⟨hs, hr⟩
  subst hs
  subst hr
  rcases ix_8 h.2.1.1.1 s with ⟨h1, h2⟩ | ⟨j, c, rfl, hj, hc, h1, h2⟩
  · rw [if_neg h2]
    simp only [mI_e]
    exact ⟨fun z => absurd (by decide) z, fun _ => ⟨CH_rf _ _, ⟨fun _ => rfl, fun c hc => by rw [h1] at hc; cases hc⟩⟩⟩
  · rw [if_pos h2]
    obtain ⟨w1, w2, w3, w4, w5, w6, w7⟩ := MS_sl h hc
    refine ⟨fun _ => ?_, fun z => absurd (by decide) z⟩
    simp only [nI_clamp (show j < 2 ^ 31 by omega), vp_in_i (show j < 2 ^ 31 by omega), hj, true_and, w5]
    refine ⟨_, k_layText h.1.1 h.1.x w2 (pre := []) (AP_nil _) (by simp), ?_⟩
    rintro r s2 ⟨rfl, g1, g2, g3⟩
    have lc := (wf_okt 13 c w2).1
    rw [List.nil_append] at g3
    have hA : ∀ r, r = (ix (tx T 13 c) i).getD (Int32.ofInt (-6)) → CH scr s' s2 ∧ A_sign T sl (nI j) i r := fun r hr => ⟨CH_w g1 (by decide), ⟨fun z => (by rw [h1] at z; cases z), fun c' hc' => by rw [h1] at hc'; cases hc'; exact hr⟩⟩
    refine ⟨_, k_in s2 _ _ _, ?_⟩
    rintro r s3 ⟨rfl, rfl⟩
    simp only [mI_e]
    rcases in_len (tx T 13 c) (by omega) i with ⟨p1, p2⟩ | ⟨k, x, rfl, hk, hx, p1, p2⟩
    · rw [if_neg p2]
      exact ⟨fun _ => hA _ (by rw [p1]; rfl), fun z => absurd rfl z⟩
    · rw [if_pos p2]
      refine ⟨fun z => absurd z (by decide), fun _ => ?_⟩
      simp only [nI_clamp (show k < 2 ^ 31 by omega), vp_in_i (show k < 2 ^ 31 by omega)]
      exact ⟨by omega, hA _ (by rw [p1]; exact g3 k x hx)⟩
theorem k_hash (h : MS T ι μ B sp e sl im en nu ev dr sm dp lo) (s : Int32) : P_hash [.inr (some 39), .inl s] μ 0 0 (mI (fun r μ' => CH scr μ μ' ∧ A_hash T sl s r)) := by
  refine e_hash s μ _ ?_
  simp only [r_hash_0, r_hash_1, r_hash_4, r_hash_7, r_hash_8, r_hash_9, r_hash_10, r_hash_11, r_hash_14, r_hash_15, r_hash_16, r_hash_17, r_hash_20, r_hash_21, r_hash_22, r_hash_23, r_hash_24, r_hash_28, r_hash_29, r_hash_32, r_hash_34, r_hash_35, r_hash_36, r_hash_37, r_hash_40, r_hash_42, r_hash_43, r_hash_44, r_hash_45, r_hash_48, r_hash_51, r_hash_52]
  refine ⟨_, k_isSlot μ s, ?_⟩
  rintro r s' ⟨hs, hr⟩
  subst hs
  subst hr
  rcases ix_8 h.2.1.1.1 s with ⟨h1, h2⟩ | ⟨j, c, rfl, hj, hc, h1, h2⟩
  · rw [if_neg h2]
    simp only [mI_e]
    exact ⟨fun z => absurd (by decide) z, fun _ => ⟨CH_rf _ _, ⟨fun _ => nI_0, fun c hc => by rw [h1] at hc; cases hc⟩⟩⟩
  · rw [if_pos h2]
    obtain ⟨w1, w2, w3, w4, w5, w6, w7⟩ := MS_sl h hc
    refine ⟨fun _ => ?_, fun z => absurd (by decide) z⟩
    simp only [nI_clamp (show j < 2 ^ 31 by omega), vp_in_i (show j < 2 ^ 31 by omega), hj, true_and, w5]
    refine ⟨_, k_layText h.1.1 h.1.x w2 (pre := []) (AP_nil _) (by simp), ?_⟩
    rintro r s2 ⟨rfl, g1, g2, g3⟩
    have lc := (wf_okt 13 c w2).1
    rw [List.nil_append] at g3
    generalize hret : mI (fun r μ' => CH scr s' μ' ∧ A_hash T sl (nI j) r) = ret
    have key : ∀ k : Nat, k ≤ (tx T 13 c).length → W_hash ret (26, [some (.inr (some 39)), some (.inl (nI j)), some (.inl (nI (tx T 13 c).length)), some (.inl (hsh ((tx T 13 c).take k))), some (.inl (nI k))], [], s2, 0, 0) := by
      refine mm_loop _ _ (fun k => (tx T 13 c).length - k) ?_
      intro k hk ih
      rw [r_hash_26]
      simp only [r_hash_0, r_hash_1, r_hash_4, r_hash_7, r_hash_8, r_hash_9, r_hash_10, r_hash_11, r_hash_14, r_hash_15, r_hash_16, r_hash_17, r_hash_20, r_hash_21, r_hash_22, r_hash_23, r_hash_24, r_hash_28, r_hash_29, r_hash_32, r_hash_34, r_hash_35, r_hash_36, r_hash_37, r_hash_40, r_hash_42, r_hash_43, r_hash_44, r_hash_45, r_hash_48, r_hash_51, r_hash_52, nI_leI (show (tx T 13 c).length < 2 ^ 31 by omega) (show k < 2 ^ 31 by omega), nI_add, nI_clamp (show k < 2 ^ 31 by omega), vp_in_i (show k < 2 ^ 31 by omega)]
      refine ⟨fun hle => ?_, fun hle => ⟨by omega, ?_⟩⟩
      · have : k = (tx T 13 c).length := by omega
        subst this
        rw [List.take_length]
        subst hret
        rw [mI_e]
        exact ⟨CH_w g1 (by decide), ⟨fun z => (by rw [h1] at z; cases z), fun c' hc' => by rw [h1] at hc'; cases hc'; rfl⟩⟩
      · obtain ⟨x, hx⟩ : ∃ x, (tx T 13 c)[k]? = some x := ⟨_, List.getElem?_eq_getElem (show k < (tx T 13 c).length by omega)⟩
        have hh := ih (k + 1) (by omega) (by omega)
        rw [List.take_add_one, hx] at hh
        simp only [hsh, List.foldl_append, Option.toList_some, List.foldl_cons, List.foldl_nil] at hh
        rw [g3 k x hx]
        exact hh
    exact key 0 (Nat.zero_le _)
theorem kd_k (hK : RK T ι μ) {c : Nat} (hc : T c ≠ none) : μ.2 0 (ι c) = nI (kd T c + 1) := by
  obtain ⟨v, hv⟩ := Option.ne_none_iff_exists'.mp hc
  obtain ⟨-, h2, -⟩ := hK c v hv
  rcases v with t | q | q
  · simp only [kd, hv]; exact h2
  · simp only [kd, hv]; exact h2.1
  · simp only [kd, hv]; exact h2.1
theorem k_told (h : MS T ι μ B sp e sl im en nu ev dr sm dp lo) (s w : Int32) : P_told [.inr (some 39), .inl s, .inl w] μ 0 0 (mI (fun r μ' => CH scr μ μ' ∧ A_told T sl s w r)) := by
  refine e_told s w μ _ ?_
  simp only [r_told_0, r_told_1, r_told_4, r_told_7, r_told_8, r_told_9, r_told_10, r_told_13, r_told_14, r_told_15, r_told_16, r_told_17, r_told_60, r_told_61, r_told_64, r_told_65, r_told_66, r_told_67, r_told_68, r_told_71, r_told_72, r_told_73, r_told_74, r_told_75, r_told_76, r_told_77, r_told_78, r_told_81, r_told_82, r_told_83, r_told_84, r_told_87, r_told_88, r_told_89, r_told_92, r_told_93, r_told_94, r_told_97, r_told_98, r_told_99, r_told_102, r_told_103, r_told_104, r_told_107, r_told_108, r_told_109, r_told_112, r_told_113, r_told_114, r_told_117, r_told_118, r_told_119, r_told_120, r_told_123, r_told_126, r_told_127, r_told_130, r_told_131, r_told_132, r_told_134]
  refine ⟨_, k_isSlot μ s, ?_⟩
  rintro r s' ⟨hs, hr⟩
  subst hs
  subst hr
  rcases ix_8 h.2.1.1.1 s with ⟨h1, h2⟩ | ⟨j, c, rfl, hj, hc, h1, h2⟩
  · rw [if_neg h2]
    simp only [mI_e]
    exact ⟨fun z => absurd (by decide) z, fun _ => ⟨CH_rf _ _, ⟨fun _ => rfl, fun c hc => by rw [h1] at hc; cases hc⟩⟩⟩
  · rw [if_pos h2]
    obtain ⟨w1, w2, w3, w4, w5, w6, w7⟩ := MS_sl h hc
    have hA : ∀ {r : Int32}, (((w.toInt < 0 ∨ 6 < w.toInt) → r = Int32.ofInt (-2)) ∧ (w.toInt = 0 → r = nI (tx T 13 c).length) ∧ (w.toInt = 1 → r = nI (kd T c)) ∧ (w.toInt = 2 → r = nI (dep T 13 c)) ∧ (w.toInt = 3 → r = nI (pcs T 13 c).length) ∧ (w.toInt = 4 → r = nI (dd (rl T 13 c)).length) ∧ (w.toInt = 5 → r = nI ((dd (rl T 13 c)).map (rm T)).sum) ∧ (w.toInt = 6 → r = if wd (tx T 13 c) then 1 else 0)) → A_told T sl (nI j) w r := fun hr => ⟨fun z => (by rw [h1] at z; cases z), fun c' hc' => by rw [h1] at hc'; cases hc'; exact hr⟩
    have no : ∀ {P : Prop} {a b : Int}, w.toInt = a → w.toInt = b → a ≠ b → P := fun h1 h2 h3 => absurd (h1.symm.trans h2) h3
    have noR : ∀ {P : Prop} {a : Int}, w.toInt = a → (w.toInt < 0 ∨ 6 < w.toInt) → 0 ≤ a ∧ a ≤ 6 → P := fun h1 h2 h3 => by omega
    refine ⟨fun _ => ?_, fun z => absurd (by decide) z⟩
    simp only [nI_clamp (show j < 2 ^ 31 by omega), vp_in_i (show j < 2 ^ 31 by omega), hj, true_and, w5, nI_clamp (show ι c < 2 ^ 31 by omega), vp_in_i (show ι c < 2 ^ 31 by omega), w4, w6, mI_e, kd_k h.1.1 w3]
    refine ⟨fun hw => ?_, fun hw => ?_, fun hw => ?_, fun hw => ?_, fun hw => ?_, fun hw => ?_, fun hw => ?_, fun hw => ?_, trivial⟩
    · exact ⟨CH_rf _ _, hA ⟨fun _ => rfl, fun z => noR z hw (by decide), fun z => noR z hw (by decide), fun z => noR z hw (by decide), fun z => noR z hw (by decide), fun z => noR z hw (by decide), fun z => noR z hw (by decide), fun z => noR z hw (by decide)⟩⟩
    · exact ⟨CH_rf _ _, hA ⟨fun z => noR hw z (by decide), fun _ => rfl, fun z => no hw z (by decide), fun z => no hw z (by decide), fun z => no hw z (by decide), fun z => no hw z (by decide), fun z => no hw z (by decide), fun z => no hw z (by decide)⟩⟩
    · exact ⟨CH_rf _ _, hA ⟨fun z => noR hw z (by decide), fun z => no hw z (by decide), fun _ => by rw [pk_sub (by omega)]; rfl, fun z => no hw z (by decide), fun z => no hw z (by decide), fun z => no hw z (by decide), fun z => no hw z (by decide), fun z => no hw z (by decide)⟩⟩
    · refine ⟨_, k_layPieces h.1.1 w2, ?_⟩
      rintro r s2 ⟨rfl, g1, g2, g3⟩
      exact ⟨CH_w g1 (by decide), hA ⟨fun z => noR hw z (by decide), fun z => no hw z (by decide), fun z => no hw z (by decide), fun _ => rfl, fun z => no hw z (by decide), fun z => no hw z (by decide), fun z => no hw z (by decide), fun z => no hw z (by decide)⟩⟩
    · refine ⟨_, k_layPieces h.1.1 w2, ?_⟩
      rintro r s2 ⟨rfl, g1, g2, g3⟩
      exact ⟨CH_w g1 (by decide), hA ⟨fun z => noR hw z (by decide), fun z => no hw z (by decide), fun z => no hw z (by decide), fun z => no hw z (by decide), fun _ => g2, fun z => no hw z (by decide), fun z => no hw z (by decide), fun z => no hw z (by decide)⟩⟩
    · refine ⟨_, k_clearMarks _, ?_⟩
      rintro s2 ⟨g1, g2⟩
      refine ⟨_, k_mark (RK_ch h.1.1 g1 (by decide) (by decide) (by decide) (by decide)) h.1.2.1 h.1.2.2.1 (MKS_0 g2) ⟨List.nodup_nil, fun x hx => by simp at hx⟩ (fun x hx => by simp at hx) w2, ?_⟩
      rintro r s3 ⟨V, v1, v2, v3, v4, rfl, v6, v7⟩
      refine ⟨CH_tr g1 v7 (by decide) (by decide), hA ⟨fun z => noR hw z (by decide), fun z => no hw z (by decide), fun z => no hw z (by decide), fun z => no hw z (by decide), fun z => no hw z (by decide), fun _ => ?_, fun z => no hw z (by decide), fun z => no hw z (by decide)⟩⟩
      rw [nd_len (dd_nodup (rl T 13 c)) v1.1 (fun x => by rw [dd_mem, v4]; simp)]
      rfl
    · refine ⟨_, k_clearMarks _, ?_⟩
      rintro s2 ⟨g1, g2⟩
      refine ⟨_, k_mark (RK_ch h.1.1 g1 (by decide) (by decide) (by decide) (by decide)) h.1.2.1 h.1.2.2.1 (MKS_0 g2) ⟨List.nodup_nil, fun x hx => by simp at hx⟩ (fun x hx => by simp at hx) w2, ?_⟩
      rintro r s3 ⟨V, v1, v2, v3, v4, rfl, v6, v7⟩
      have g3 : CH [4, 22] s' s3 := CH_tr g1 v7 (by decide) (by decide)
      refine ⟨_, k_roomOfMarked (RK_ch h.1.1 g3 (by decide) (by decide) (by decide) (by decide)) (RX_ch h.1.x g3 (by decide) (by decide)) h.1.2.1 h.1.2.2.1 v1 v2, ?_⟩
      rintro r s4 ⟨rfl, rfl⟩
      refine ⟨CH_w g3 (by decide), hA ⟨fun z => noR hw z (by decide), fun z => no hw z (by decide), fun z => no hw z (by decide), fun z => no hw z (by decide), fun z => no hw z (by decide), fun z => no hw z (by decide), fun _ => ?_, fun z => no hw z (by decide)⟩⟩
      rw [nd_sum (rm T) (dd_nodup (rl T 13 c)) v1.1 (fun x => by rw [dd_mem, v4]; simp)]
    · refine ⟨_, k_isWide h.1.1 h.1.x h.2.1.1.1 h.2.1.1.2 hc w2, ?_⟩
      rintro r s2 ⟨g1, rfl⟩
      have g2 : CH scr s' s2 := CH_w g1 (by decide)
      have fin : ∀ {r : Int32}, (r = if wd (tx T 13 c) then 1 else 0) → A_told T sl (nI j) w r := fun hr => hA ⟨fun z => noR hw z (by decide), fun z => no hw z (by decide), fun z => no hw z (by decide), fun z => no hw z (by decide), fun z => no hw z (by decide), fun z => no hw z (by decide), fun z => no hw z (by decide), fun _ => hr⟩
      by_cases hd : wd (tx T 13 c) = true
      · rw [if_pos hd]
        exact ⟨fun z => absurd z (by decide), fun _ => ⟨g2, fin (by rw [if_pos hd]; rfl)⟩⟩
      · rw [if_neg hd]
        exact ⟨fun _ => ⟨g2, fin (by rw [if_neg hd]; exact nI_0)⟩, fun z => absurd rfl z⟩
end
