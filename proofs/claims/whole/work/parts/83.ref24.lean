/-! ===== the reference: put, join, cut ===== -/
/-- a tree over a smaller store lies in a larger one, with new cells -/
def NS (T T2 : sT) (ι : Nat → Nat) (B : Nat) (R : List Nat) (t : tT) (T3 : sT) (ι3 : Nat → Nat) (k : Nat) (F : List Nat) : Prop :=
  (∀ c v, T2 c = some v → T c = some v) ∧ (∀ r ∈ R, T2 r ≠ none) ∧ (∀ c, T2 c ≠ none → wf T2 13 c) ∧ (∀ c, B ≤ c → T2 c = none) ∧ tw T2 12 t ∧ BX T2 ι T3 ι3 ∧ rT T3 t k F ∧ F.Nodup ∧ ∀ x ∈ F, B ≤ x
section
variable {T : sT} {ι : Nat → Nat} {μ : rf_M} {B sp e : Nat} {sl : List Nat} {im : Nat → Option (List Nat)} {en nu : List Nat} {ev : Nat} {dr : List Int32} {sm dp lo : Nat}
theorem ext_12 {T2 T : sT} (h : ∀ c v, T2 c = some v → T c = some v) {r : Nat} (h1 : wf T2 13 r) (h2 : wf T 12 r) : wf T2 12 r := by
  obtain ⟨e1, e2, e3, e4, e5⟩ := ext_wf h 13 r h1
  refine wf_low 13 12 r h1 ?_
  rw [← e4, (wf_up 12 r h2).2.2.2.1]
  exact wf_dep 12 r
/-- after room was made -/
theorem MS_room (h : MS T ι μ B sp e sl im en nu ev dr sm dp lo) {T2 : sT} {μ1 : rf_M} {sp2 e2 : Nat} {l : List Nat} (hs : ∀ c v, T2 c = some v → T c = some v) (hR : ∀ r ∈ rts sl im en, T2 r ≠ none) (h2 : RR T2 ι μ1 B sp2 e2) (hc : CH l μ μ1) (hl : ∀ k ∈ [9, 10, 11, 12, 13, 14, 15, 16, 17, 18, 19, 20], k ∉ l) : MS T2 ι μ1 B sp2 e2 sl im en nu ev dr sm dp lo := by
  obtain ⟨a1, a2, a3, a4, a5, a6, ⟨a7, a8, a9, a10⟩, ⟨a11, a12, a13⟩, a14⟩ := h
  have g := fun k hk => hc k (hl k hk)
  refine ⟨h2, RO_ch a2 hc (fun k hk => hl k ?_), fun r hr => ext_12 hs (h2.2.2.1 r (hR r hr)) (a3 r hr), a4, by rw [(g 13 (by decide)).2]; exact a5, by rw [(g 15 (by decide)).1]; exact a6, ⟨a7, by rw [(g 17 (by decide)).1]; exact a8, by rw [(g 16 (by decide)).2]; exact a9, a10⟩, ⟨by rw [(g 18 (by decide)).1]; exact a11, by rw [(g 19 (by decide)).1]; exact a12, by rw [(g 20 (by decide)).1]; exact a13⟩, a14⟩
  revert k; decide
/-- more cells -/
theorem MS_more (h : MS T ι μ B sp e sl im en nu ev dr sm dp lo) {T3 : sT} {ι3 : Nat → Nat} {μ1 : rf_M} {B3 sp3 e3 : Nat} {l : List Nat} (hx : BX T ι T3 ι3) (h3 : RR T3 ι3 μ1 B3 sp3 e3) (hc : CH l μ μ1) (hl : ∀ k ∈ [9, 10, 11, 12, 13, 14, 15, 16, 17, 18, 19, 20], k ∉ l) : MS T3 ι3 μ1 B3 sp3 e3 sl im en nu ev dr sm dp lo := by
  obtain ⟨a1, a2, a3, a4, a5, a6, ⟨a7, a8, a9, a10⟩, ⟨a11, a12, a13⟩, a14⟩ := h
  have g := fun k hk => hc k (hl k hk)
  obtain ⟨⟨o1, o2⟩, o3, c1, c2, c3⟩ := a2
  have hi : ∀ r ∈ rts sl im en, ι3 r = ι r := fun r hr => hx.2 r (wf_nn (a3 r hr))
  have hm : ∀ L : List Nat, (∀ r ∈ L, r ∈ rts sl im en) → L.map (fun p => nI (ι3 p)) = L.map (fun p => nI (ι p)) := fun L hL => List.map_congr_left (fun r hr => by rw [hi r (hL r hr)])
  refine ⟨h3, ⟨⟨o1, ?_⟩, fun k hk => ?_, c1, ?_, ?_⟩, fun r hr => (ext_wf hx.1 12 r (a3 r hr)).1, a4, by rw [(g 13 (by decide)).2]; exact a5, by rw [(g 15 (by decide)).1]; exact a6, ⟨a7, by rw [(g 17 (by decide)).1]; exact a8, by rw [(g 16 (by decide)).2]; exact a9, a10⟩, ⟨by rw [(g 18 (by decide)).1]; exact a11, by rw [(g 19 (by decide)).1]; exact a12, by rw [(g 20 (by decide)).1]; exact a13⟩, a14⟩
  · rw [(g 9 (by decide)).2, hm sl (fun r hr => by simp [rts, hr])]; exact o2
  · rw [(g 11 (by decide)).2, (g 10 (by decide)).2]
    rcases o3 k hk with ⟨b1, b2⟩ | ⟨l', b1, b2, b3, b4⟩
    · exact Or.inl ⟨b1, b2⟩
    · exact Or.inr ⟨l', b1, b2, b3, fun j x hj => by rw [hi x (rts_im hk b1 (List.mem_of_getElem? hj))]; exact b4 j x hj⟩
  · rw [(g 14 (by decide)).1]; exact c2
  · rw [(g 12 (by decide)).2, hm en (fun r hr => by simp [rts, hr])]; exact c3
theorem MS_roots (h : MS T ι μ B sp e sl im en nu ev dr sm dp lo) : ∀ r ∈ rts sl im en, T r ≠ none := fun r hr => wf_nn (h.2.2.1 r hr)
theorem k_put (h : MS T ι μ B sp e sl im en nu ev dr sm dp lo) (s : Int32) : P_put [.inr (some 39), .inl s] μ 0 0 (mI (fun r μ' => (ix sl s = none ∧ r = Int32.ofInt (-1) ∧ μ' = μ) ∨ (∃ j, j < 8 ∧ s = nI j ∧ r = nI dr.length ∧ ∃ T2 T3 ι3 B3 sp3 e3 k F, NS T T2 ι B (rts sl im en) (tl (.inr (.inl dr))) T3 ι3 k F ∧ MS T3 ι3 μ' B3 sp3 e3 (sl.set j k) im en nu ev [] sm dp lo))) := by
  refine e_put s μ _ ?_
  simp only [r_put_0, r_put_1, r_put_4, r_put_7, r_put_8, r_put_9, r_put_10, r_put_13, r_put_14, r_put_16, r_put_17, r_put_20, r_put_23, r_put_24, r_put_27, r_put_28, r_put_29, r_put_32, r_put_33, r_put_34, r_put_35, r_put_38, r_put_41, r_put_42, r_put_45, r_put_46, r_put_47, r_put_48, r_put_51, r_put_54, r_put_55, r_put_56, r_put_57, r_put_60, r_put_61, r_put_64, r_put_65, r_put_68, r_put_69, r_put_70, r_put_71]
  refine ⟨_, k_isSlot μ s, ?_⟩
  rintro r s' ⟨hs, hr⟩
  subst hs
  subst hr
  rcases ix_8 h.2.1.1.1 s with ⟨h1, h2⟩ | ⟨j, c, rfl, hj, hc, h1, h2⟩
  · rw [if_neg h2]
    simp only [mI_e]
    exact ⟨fun z => absurd (by decide) z, fun _ => Or.inl ⟨h1, by trivial, by trivial⟩⟩
  rw [if_pos h2]
  refine ⟨fun _ => ?_, fun z => absurd (by decide) z⟩
  refine ⟨_, k_makeRoom h.1 h.2.1 (MS_roots h), ?_⟩
  rintro s1 ⟨T2, sp2, e2, g1, g2, g3, g4, g5, g6⟩
  have hm := MS_room h g1 g2 g3 g6 (by decide)
  obtain ⟨a1, a2, a3, a4, a5, a6, ⟨a7, a8, a9, a10⟩, a11, a14⟩ := id hm
  generalize hret : mI (fun r μ' => (ix sl (nI j) = none ∧ r = Int32.ofInt (-1) ∧ μ' = s') ∨ (∃ j', j' < 8 ∧ nI j = nI j' ∧ r = nI dr.length ∧ ∃ T2 T3 ι3 B3 sp3 e3 k F, NS T T2 ι B (rts sl im en) (tl (.inr (.inl dr))) T3 ι3 k F ∧ MS T3 ι3 μ' B3 sp3 e3 (sl.set j' k) im en nu ev [] sm dp lo)) = ret
  have key : ∀ y : Nat × rf_M, (y.1 ≤ dr.length ∧ CH [21] s1 y.2 ∧ AP (y.2.2 21) (dr.take y.1)) → W_put ret (15, [some (.inr (some 39)), some (.inl (nI j)), some (.inl (nI y.1))], [], y.2, 0, 0) := by
    refine mm_loop _ _ (fun y => dr.length - y.1) ?_
    rintro ⟨i, μ1⟩ ⟨i0, i1, i2⟩ ih
    dsimp only at i0 i1 i2 ⊢
    have e17 : μ1.1 17 = nI dr.length := by rw [(i1 17 (by decide)).1]; exact a8
    have e16 : μ1.2 16 = s1.2 16 := (i1 16 (by decide)).2
    rw [r_put_15]
    simp only [r_put_0, r_put_1, r_put_4, r_put_7, r_put_8, r_put_9, r_put_10, r_put_13, r_put_14, r_put_16, r_put_17, r_put_20, r_put_23, r_put_24, r_put_27, r_put_28, r_put_29, r_put_32, r_put_33, r_put_34, r_put_35, r_put_38, r_put_41, r_put_42, r_put_45, r_put_46, r_put_47, r_put_48, r_put_51, r_put_54, r_put_55, r_put_56, r_put_57, r_put_60, r_put_61, r_put_64, r_put_65, r_put_68, r_put_69, r_put_70, r_put_71, e17, e16, nI_leI (show dr.length < 2 ^ 31 by omega) (show i < 2 ^ 31 by omega), nI_add]
    refine ⟨fun hle => ?_, fun hle => ?_⟩
    · have hi : i = dr.length := by omega
      subst hi
      rw [List.take_length] at i2
      have hm1 : MS T2 ι μ1 B sp2 e2 sl im en nu ev dr sm dp lo := MS_ch hm i1 (by decide)
      have hdr : okt dr := ⟨by omega, a10⟩
      refine ⟨_, k_newLeaf hm1.1 (by omega) hdr i2 (by omega), ?_⟩
      rintro r s2 ⟨i, rfl, hi, p1, p2⟩
      have hTB : T2 B = none := hm1.1.2.2.2.1 B (Nat.le_refl _)
      have hx : BX T2 ι (va_up T2 B (some (.inl dr))) (va_up ι B i) := ⟨ext_up hTB _, fun c hc => va_up_ne _ _ (fun z => hc (by rw [z]; exact hTB))⟩
      have hm2 := MS_more hm1 hx p2 p1 (by decide)
      have hB : va_up T2 B (some (.inl dr)) B = some (.inl dr) := va_up_self _ _ _
      have hwB : wf (va_up T2 B (some (.inl dr))) 12 B := (wf_leaf hB).mpr hdr
      have hm3 := MS_slot hm2 hj hwB
      rw [va_up_self] at hm3
      have e9 : rf_up s2.2 9 j (nI i) 9 j = nI i := by rw [rf_up_s, pk_us]
      have e3 : rf_up s2.2 9 j (nI i) 3 i = nI dr.length := by
        rw [rf_up_n (by decide)]
        have := (p2.1 B _ hB).2.2
        rw [va_up_self, tx_leaf hB] at this
        exact this
      simp only [nI_clamp (show j < 2 ^ 31 by omega), vp_in_i (show j < 2 ^ 31 by omega), hj, true_and, e9, nI_clamp (show i < 2 ^ 31 by omega), vp_in_i (show i < 2 ^ 31 by omega), hi, e3]
      subst hret
      rw [mI_e]
      refine Or.inr ⟨j, hj, rfl, rfl, T2, va_up T2 B (some (.inl dr)), va_up ι B i, B + 1, sp2 - 1, e2 + 2 + dr.length, B, [B], ⟨g1, g2, hm1.1.2.2.1, hm1.1.2.2.2.1, hdr, hx, ⟨hB, rfl⟩, by simp, fun x hx => by simp at hx; omega⟩, ?_⟩
      obtain ⟨b1, b2, b3, b4, b5, b6, -, b11, b14⟩ := hm3
      have hch : CH [17] (s2.1, rf_up s2.2 9 j (nI i)) (upd s2.1 17 (nI 0), rf_up s2.2 9 j (nI i)) := CH_i2 (CH_rf _ _) (by decide)
      refine ⟨RR_ch b1 hch (by decide), RO_ch b2 hch (by decide), b3, b4, b5, ?_, ⟨by simp, ?_, AP_nil _, fun x hx => by simp at hx⟩, ?_, b14⟩
      · rw [(hch 15 (by decide)).1]; exact b6
      · show upd s2.1 17 (nI 0) 17 = _
        exact pk_us
      · rw [(hch 18 (by decide)).1, (hch 19 (by decide)).1, (hch 20 (by decide)).1]; exact b11
    · obtain ⟨x, hx⟩ : ∃ x, dr[i]? = some x := ⟨_, List.getElem?_eq_getElem (show i < dr.length by omega)⟩
      simp only [nI_clamp (show i < 2 ^ 31 by omega), vp_in_i (show i < 2 ^ 31 by omega), a9 i x hx]
      refine ⟨by omega, by omega, ih (i + 1, (μ1.1, rf_up μ1.2 21 i x)) ⟨by dsimp only; omega, CH_a2 i1 (by decide), ?_⟩ (by dsimp only; omega)⟩
      dsimp only
      rw [rf_up_s, List.take_add_one, hx]
      have := AP_push i2 x
      rw [List.length_take, Nat.min_eq_left (by omega)] at this
      exact this
  exact key (0, s1) ⟨Nat.zero_le _, CH_rf _ _, by simp only [List.take_zero]; exact AP_nil _⟩
theorem k_join (h : MS T ι μ B sp e sl im en nu ev dr sm dp lo) (t a b : Int32) : P_join [.inr (some 39), .inl t, .inl a, .inl b] μ 0 0 (mI (fun r μ' => ((ix sl t = none ∨ ix sl a = none ∨ ix sl b = none) ∧ r = Int32.ofInt (-1) ∧ μ' = μ) ∨ (∃ j c d, j < 8 ∧ t = nI j ∧ ix sl a = some c ∧ ix sl b = some d ∧ ((120 < (tx T 13 c).length + (tx T 13 d).length ∧ r = Int32.ofInt (-4) ∧ μ' = μ) ∨
    ((tx T 13 c).length + (tx T 13 d).length ≤ 120 ∧ r = nI ((tx T 13 c).length + (tx T 13 d).length) ∧ ∃ T2 T3 ι3 B3 sp3 e3 k F, NS T T2 ι B (rts sl im en) (joinT T2 sm dp (tl (.inl c)) (tl (.inl d))) T3 ι3 k F ∧ MS T3 ι3 μ' B3 sp3 e3 (sl.set j k) im en nu ev dr sm dp lo))))) := by
  refine e_join t a b μ _ ?_
  simp only [r_join_0, r_join_1, r_join_4, r_join_7, r_join_8, r_join_11, r_join_14, r_join_15, r_join_18, r_join_21, r_join_22, r_join_23, r_join_24, r_join_27, r_join_28, r_join_31, r_join_32, r_join_33, r_join_34, r_join_35, r_join_38, r_join_39, r_join_42, r_join_43, r_join_44, r_join_45, r_join_46, r_join_48, r_join_51, r_join_53, r_join_54, r_join_55, r_join_58, r_join_59, r_join_62, r_join_63, r_join_64, r_join_65, r_join_68, r_join_69, r_join_70, r_join_71, r_join_74, r_join_75, r_join_76, r_join_79, r_join_80, r_join_81, r_join_84, r_join_85, r_join_88, r_join_89, r_join_90, r_join_91]
  refine ⟨_, k_isSlot μ t, ?_⟩
  rintro r s' ⟨hs, hr⟩
  subst hs
  subst hr
  rcases ix_8 h.2.1.1.1 t with ⟨h1, h2⟩ | ⟨j, x, rfl, hj, hx, h1, h2⟩
  · rw [if_neg h2]
    simp only [mI_e]
    exact ⟨fun _ => Or.inl ⟨Or.inl h1, by trivial, by trivial⟩, fun z => absurd (by decide) z⟩
  rw [if_pos h2]
  refine ⟨fun z => absurd z (by decide), fun _ => ?_⟩
  refine ⟨_, k_isSlot s' a, ?_⟩
  rintro r s1 ⟨hs, hr⟩
  subst hs
  subst hr
  rcases ix_8 h.2.1.1.1 a with ⟨i1, i2⟩ | ⟨k, c, rfl, hk, hc, i1, i2⟩
  · rw [if_neg i2]
    simp only [mI_e]
    exact ⟨fun _ => Or.inl ⟨Or.inr (Or.inl i1), by trivial, by trivial⟩, fun z => absurd (by decide) z⟩
  rw [if_pos i2]
  refine ⟨fun z => absurd z (by decide), fun _ => ?_⟩
  refine ⟨_, k_isSlot s1 b, ?_⟩
  rintro r s2 ⟨hs, hr⟩
  subst hs
  subst hr
  rcases ix_8 h.2.1.1.1 b with ⟨l1, l2⟩ | ⟨m, d, rfl, hm, hd, l1, l2⟩
  · rw [if_neg l2]
    simp only [mI_e]
    exact ⟨fun z => absurd (by decide) z, fun _ => Or.inl ⟨Or.inr (Or.inr l1), by trivial, by trivial⟩⟩
  rw [if_pos l2]
  refine ⟨fun _ => ?_, fun z => absurd (by decide) z⟩
  obtain ⟨u1, u2, u3, u4, u5, u6, u7⟩ := MS_sl h hc
  obtain ⟨v1, v2, v3, v4, v5, v6, v7⟩ := MS_sl h hd
  have lu := (wf_okt 13 c u2).1
  have lv := (wf_okt 13 d v2).1
  simp only [nI_clamp (show k < 2 ^ 31 by omega), vp_in_i (show k < 2 ^ 31 by omega), hk, true_and, u5, nI_clamp (show m < 2 ^ 31 by omega), vp_in_i (show m < 2 ^ 31 by omega), hm, v5, nI_clamp (show ι c < 2 ^ 31 by omega), vp_in_i (show ι c < 2 ^ 31 by omega), u4, u6, nI_clamp (show ι d < 2 ^ 31 by omega), vp_in_i (show ι d < 2 ^ 31 by omega), v4, v6, nI_add, nI_leI (show (tx T 13 c).length + (tx T 13 d).length < 2 ^ 31 by omega) (show 120 < 2 ^ 31 by omega)]
  refine ⟨fun hle => ?_, fun hgt => ?_⟩
  · refine ⟨_, k_makeRoom h.1 h.2.1 (MS_roots h), ?_⟩
    rintro s3 ⟨T2, sp2, e2, g1, g2, g3, g4, g5, g6⟩
    have hms := MS_room h g1 g2 g3 g6 (by decide)
    obtain ⟨p1, p2, p3, p4, p5, p6, p7⟩ := MS_sl hms hc
    obtain ⟨q1, q2, q3, q4, q5, q6, q7⟩ := MS_sl hms hd
    have eu : tx T 13 c = tx T2 13 c := (ext_wf g1 13 c p2).2.1
    have ev' : tx T 13 d = tx T2 13 d := (ext_wf g1 13 d q2).2.1
    rw [eu, ev'] at hle
    have hlen : (ttx T2 (tl (.inl c))).length + (ttx T2 (tl (.inl d))).length ≤ 120 := by
      show (tx T2 12 c).length + (tx T2 12 d).length ≤ 120
      rw [← p7, ← q7]; exact hle
    obtain ⟨⟨r18, r19, r20⟩, r21⟩ := hms.2.2.2.2.2.2.2
    simp only [nI_clamp (show k < 2 ^ 31 by omega), vp_in_i (show k < 2 ^ 31 by omega), hk, true_and, p5, nI_clamp (show m < 2 ^ 31 by omega), vp_in_i (show m < 2 ^ 31 by omega), hm, q5]
    refine ⟨_, k_joined (T0 := T2) (fun _ _ z => z) hms.1 r18 r21.1 r19 r21.2.2.1 (ta := tl (.inl c)) (tb := tl (.inl d)) (Fa := []) (Fb := []) p1 q1 ⟨rfl, rfl⟩ ⟨rfl, rfl⟩ (by simp) (fun x hx => by simp at hx) hlen (by omega) (by omega), ?_⟩
    rintro r s4 ⟨T3, ι3, B3, sp3, e3, k3, F, rfl, f1, f2, f3, f4, f5, f6, f7, f8, f9⟩
    obtain ⟨tj1, tj2⟩ := joinT_ok (T := T2) (sm := sm) (dp := dp) (a := tl (.inl c)) (b := tl (.inl d)) p1 q1 r21.2.2.1 hlen
    obtain ⟨w1, w2, w3, w4⟩ := rT_ok f1.1 _ 12 k3 F (Nat.le_refl _) tj1 f7
    obtain ⟨vk, hvk⟩ := Option.ne_none_iff_exists'.mp (wf_nn w1)
    obtain ⟨k1, -, k4⟩ := f2.1 k3 vk hvk
    have hm2 := MS_more hms f1 f2 f6 (by decide)
    have hm3 := MS_slot hm2 hj w1
    have e9 : rf_up s4.2 9 j (nI (ι3 k3)) 9 j = nI (ι3 k3) := by rw [rf_up_s, pk_us]
    have e3' : rf_up s4.2 9 j (nI (ι3 k3)) 3 (ι3 k3) = nI ((tx T2 13 c).length + (tx T2 13 d).length) := by
      rw [rf_up_n (by decide), k4, (wf_up 12 k3 w1).2.1, w2, tj2, List.length_append]
      show nI ((tx T2 12 c).length + (tx T2 12 d).length) = _
      rw [p7, q7]
    simp only [nI_clamp (show j < 2 ^ 31 by omega), vp_in_i (show j < 2 ^ 31 by omega), hj, true_and, e9, nI_clamp (show ι3 k3 < 2 ^ 31 by omega), vp_in_i (show ι3 k3 < 2 ^ 31 by omega), k1, e3', mI_e]
    refine Or.inr ⟨j, c, d, hj, by trivial, i1, l1, Or.inr ⟨by rw [eu, ev']; exact hle, by rw [eu, ev'], T2, T3, ι3, B3, sp3, e3, k3, F, ⟨g1, g2, hms.1.2.2.1, hms.1.2.2.2.1, tj1, f1, f7, f8, fun x hx => ?_⟩, hm3⟩⟩
    rcases f9 x hx with z | z
    · simp at z
    · exact z.1
  · rw [mI_e]
    exact Or.inr ⟨j, c, d, hj, rfl, i1, l1, Or.inl ⟨by omega, rfl, rfl⟩⟩
theorem k_cut (h : MS T ι μ B sp e sl im en nu ev dr sm dp lo) (t a f n : Int32) : P_cut [.inr (some 39), .inl t, .inl a, .inl f, .inl n] μ 0 0 (mI (fun r μ' => ((ix sl t = none ∨ ix sl a = none) ∧ r = Int32.ofInt (-1) ∧ μ' = μ) ∨ (∃ j c, j < 8 ∧ t = nI j ∧ ix sl a = some c ∧ ((¬ (∃ x y, f = nI x ∧ n = nI y ∧ x + y ≤ (tx T 13 c).length) ∧ r = Int32.ofInt (-2) ∧ μ' = μ) ∨
    (∃ x y, f = nI x ∧ n = nI y ∧ x + y ≤ (tx T 13 c).length ∧ r = n ∧ ∃ T2 T3 ι3 B3 sp3 e3 k F, NS T T2 ι B (rts sl im en) (cutT T2 sm dp lo 12 c x y) T3 ι3 k F ∧ MS T3 ι3 μ' B3 sp3 e3 (sl.set j k) im en nu ev dr sm dp lo))))) := by
  refine e_cut t a f n μ _ ?_
  simp only [r_cut_0, r_cut_1, r_cut_4, r_cut_7, r_cut_8, r_cut_11, r_cut_14, r_cut_15, r_cut_16, r_cut_17, r_cut_20, r_cut_21, r_cut_24, r_cut_25, r_cut_26, r_cut_27, r_cut_29, r_cut_30, r_cut_31, r_cut_33, r_cut_36, r_cut_39, r_cut_41, r_cut_42, r_cut_44, r_cut_45, r_cut_46, r_cut_49, r_cut_52, r_cut_54, r_cut_55, r_cut_56, r_cut_59, r_cut_60, r_cut_63, r_cut_64, r_cut_65, r_cut_66, r_cut_69, r_cut_70, r_cut_71, r_cut_72, r_cut_74, r_cut_77, r_cut_78, r_cut_80]
  refine ⟨_, k_isSlot μ t, ?_⟩
  rintro r s' ⟨hs, hr⟩
  subst hs
  subst hr
  rcases ix_8 h.2.1.1.1 t with ⟨h1, h2⟩ | ⟨j, x, rfl, hj, hx, h1, h2⟩
  · rw [if_neg h2]
    simp only [mI_e]
    exact ⟨fun _ => Or.inl ⟨Or.inl h1, by trivial, by trivial⟩, fun z => absurd (by decide) z⟩
  rw [if_pos h2]
  refine ⟨fun z => absurd z (by decide), fun _ => ?_⟩
  refine ⟨_, k_isSlot s' a, ?_⟩
  rintro r s1 ⟨hs, hr⟩
  subst hs
  subst hr
  rcases ix_8 h.2.1.1.1 a with ⟨i1, i2⟩ | ⟨k, c, rfl, hk, hc, i1, i2⟩
  · rw [if_neg i2]
    simp only [mI_e]
    exact ⟨fun z => absurd (by decide) z, fun _ => Or.inl ⟨Or.inr i1, by trivial, by trivial⟩⟩
  rw [if_pos i2]
  refine ⟨fun _ => ?_, fun z => absurd (by decide) z⟩
  obtain ⟨u1, u2, u3, u4, u5, u6, u7⟩ := MS_sl h hc
  have lu := (wf_okt 13 c u2).1
  simp only [nI_clamp (show k < 2 ^ 31 by omega), vp_in_i (show k < 2 ^ 31 by omega), hk, true_and, u5, nI_clamp (show ι c < 2 ^ 31 by omega), vp_in_i (show ι c < 2 ^ 31 by omega), u4, u6]
  refine ⟨_, k_in s1 f _ _, ?_⟩
  rintro r s2 ⟨hs, hr⟩
  subst hs
  subst hr
  by_cases hf : ¬ (nI 0 ≤ f ∧ f ≤ nI (tx T 13 c).length)
  · rw [if_neg hf]
    simp only [mI_e]
    refine ⟨fun _ => Or.inr ⟨j, c, hj, by trivial, i1, Or.inl ⟨?_, by trivial, by trivial⟩⟩, fun z => absurd (by decide) z⟩
    rintro ⟨x, y, rfl, rfl, hxy⟩
    exact hf (nI_rng' (by omega) (by omega) (by omega))
  have hf := Classical.not_not.mp hf
  rw [if_pos hf]
  refine ⟨fun z => absurd z (by decide), fun _ => ?_⟩
  obtain ⟨x, rfl, -, hx2⟩ := nI_rng (by omega) hf (by omega)
  rw [pk_sub hx2]
  refine ⟨_, k_in s2 n _ _, ?_⟩
  rintro r s3 ⟨hs, hr⟩
  subst hs
  subst hr
  by_cases hn : ¬ (nI 0 ≤ n ∧ n ≤ nI ((tx T 13 c).length - x))
  · rw [if_neg hn]
    simp only [mI_e]
    refine ⟨fun z => absurd (by decide) z, fun _ => Or.inr ⟨j, c, hj, by trivial, i1, Or.inl ⟨?_, by trivial, by trivial⟩⟩⟩
    rintro ⟨x', y, hxx, rfl, hxy⟩
    rw [nI_eq (by omega) (by omega)] at hxx
    subst hxx
    exact hn (nI_rng' (by omega) (by omega) (by omega))
  have hn := Classical.not_not.mp hn
  rw [if_pos hn]
  refine ⟨fun _ => ?_, fun z => absurd (by decide) z⟩
  obtain ⟨y, rfl, -, hy2⟩ := nI_rng (by omega) hn (by omega)
  refine ⟨_, k_makeRoom h.1 h.2.1 (MS_roots h), ?_⟩
  rintro s4 ⟨T2, sp2, e2, g1, g2, g3, g4, g5, g6⟩
  have hms := MS_room h g1 g2 g3 g6 (by decide)
  obtain ⟨p1, p2, p3, p4, p5, p6, p7⟩ := MS_sl hms hc
  have eu : tx T 13 c = tx T2 13 c := (ext_wf g1 13 c p2).2.1
  have hfm : x + y ≤ (tx T2 12 c).length := by rw [← p7, ← eu]; omega
  obtain ⟨⟨r18, r19, r20⟩, r21⟩ := hms.2.2.2.2.2.2.2
  simp only [nI_clamp (show k < 2 ^ 31 by omega), vp_in_i (show k < 2 ^ 31 by omega), hk, true_and, p5]
  refine ⟨_, k_cutOut hms.1 r18 r21.1 r19 r21.2.2.1 r20 r21.2.2.2 p1 hfm g4 g5, ?_⟩
  rintro r s5 ⟨T3, ι3, B3, sp3, e3, k3, F, rfl, ⟨f1, f2, f3, f4, f5, f6⟩, f7, f8⟩
  obtain ⟨tj1, tj2⟩ := cutT_ok (T := T2) (sm := sm) (dp := dp) (lo := lo) r21.2.2.1 r21.2.2.2 12 c x y (Nat.le_refl _) p1 hfm
  obtain ⟨w1, w2, w3, w4⟩ := rT_ok f1.1 _ 12 k3 F (Nat.le_refl _) tj1 f3
  have hm3 := MS_slot (MS_more hms f1 f7 f8 (by decide)) hj w1
  simp only [nI_clamp (show j < 2 ^ 31 by omega), vp_in_i (show j < 2 ^ 31 by omega), hj, true_and, mI_e]
  exact Or.inr ⟨j, c, hj, by trivial, i1, Or.inr ⟨x, y, by trivial, by trivial, by omega, T2, T3, ι3, B3, sp3, e3, k3, F, ⟨g1, g2, hms.1.2.2.1, hms.1.2.2.2.1, tj1, f1, f3, f4, fun z hz => (f5 z hz).1⟩, hm3⟩⟩
end
