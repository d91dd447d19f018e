/-! ===== flat: a cell becomes a leaf ===== -/
def flT (T : sT) (c : Nat) : sT := va_up T c (some (.inl (tx T 13 c)))
theorem flT_s (T : sT) (c : Nat) : flT T c c = some (.inl (tx T 13 c)) := va_up_self _ _ _
theorem flT_n {T : sT} {c x : Nat} (h : x ≠ c) : flT T c x = T x := va_up_ne _ _ h
theorem flT_leaf {T : sT} {c : Nat} {t : List Int32} (h : T c = some (.inl t)) : flT T c = T := by
  funext x
  by_cases hx : x = c
  · subst hx; rw [flT_s, tx_leaf h, h]
  · exact flT_n hx
theorem flT_wf {T : sT} {c : Nat} (hc : wf T 13 c) (hl : ∀ t, T c ≠ some (.inl t)) : ∀ (n x : Nat), n ≤ 13 → wf T n x → wf (flT T c) n x ∧ tx (flT T c) n x = tx T n x := by
  have okc := wf_okt 13 c hc
  have oksf : ∀ q, oks T q → oks (flT T c) q ∧ lfT (flT T c) q.1 = lfT T q.1 := fun q hq => by
    obtain ⟨t, h1, h2⟩ := hq
    have hne : q.1 ≠ c := fun z => hl t (by rw [← z]; exact h1)
    exact ⟨⟨t, by rw [flT_n hne]; exact h1, h2⟩, by simp only [lfT, flT_n hne]⟩
  have atc : ∀ n, n ≤ 13 → wf T n c → wf (flT T c) n c ∧ tx (flT T c) n c = tx T n c := fun n hn hw => by
    refine ⟨(wf_leaf (flT_s T c)).mpr okc, ?_⟩
    rw [tx_leaf (flT_s T c)]
    exact (wf_le hn hw).2.1
  intro n
  induction n with
  | zero =>
    intro x hn hw
    by_cases hx : x = c
    · subst hx; exact atc 0 hn hw
    · rcases wf_cases hw with ⟨t, h, ht⟩ | ⟨q, h, hq⟩ | ⟨k, q, hk, -⟩
      · have h' := (flT_n hx).trans h
        exact ⟨(wf_leaf h').mpr ht, by rw [tx_leaf h', tx_leaf h]⟩
      · have h' := (flT_n hx).trans h
        obtain ⟨o1, o2⟩ := oksf q hq
        exact ⟨(wf_slice h').mpr o1, by rw [tx_slice h', tx_slice h, o2]⟩
      · cases hk
  | succ n ih =>
    intro x hn hw
    by_cases hx : x = c
    · subst hx; exact atc _ hn hw
    · rcases wf_cases hw with ⟨t, h, ht⟩ | ⟨q, h, hq⟩ | ⟨k, q, hk, h, h1, h2, h3, h4, h5⟩
      · have h' := (flT_n hx).trans h
        exact ⟨(wf_leaf h').mpr ht, by rw [tx_leaf h', tx_leaf h]⟩
      · have h' := (flT_n hx).trans h
        obtain ⟨o1, o2⟩ := oksf q hq
        exact ⟨(wf_slice h').mpr o1, by rw [tx_slice h', tx_slice h, o2]⟩
      · cases hk
        have h' := (flT_n hx).trans h
        obtain ⟨a1, a2⟩ := ih q.1 (by omega) h1
        obtain ⟨b1, b2⟩ := ih q.2 (by omega) h2
        exact ⟨(wf_join h').mpr ⟨a1, b1, by rw [a2]; exact h3, by rw [b2]; exact h4, by rw [a2, b2]; exact h5⟩, by rw [tx_join h', tx_join h, a2, b2]⟩
theorem flT_nn {T : sT} {c x : Nat} (hc : T c ≠ none) : flT T c x ≠ none ↔ T x ≠ none := by
  by_cases hx : x = c
  · subst hx
    rw [flT_s]
    exact ⟨fun _ => hc, fun _ z => by cases z⟩
  · rw [flT_n hx]
/-- a cell's text is kept anew, and the cell says so -/
theorem RR_flat {T : sT} {ι : Nat → Nat} {μ μ' : rf_M} {B sp e c : Nat} (h : RR T ι μ B sp e) (hc : T c ≠ none) (hl : ∀ t, T c ≠ some (.inl t)) (he : e + 2 + (tx T 13 c).length ≤ 81920)
    (m0 : μ'.2 0 = upd (μ.2 0) (ι c) (nI 1)) (m1 : μ'.2 1 = upd (μ.2 1) (ι c) (nI (e + 2))) (m2 : μ'.2 2 = μ.2 2) (m3 : μ'.2 3 = μ.2 3) (m5 : μ'.1 5 = μ.1 5) (m6 : μ'.1 6 = μ.1 6) (m8 : μ'.1 8 = nI (e + 2 + (tx T 13 c).length)) (m7 : ∀ j, j < e → μ'.2 7 j = μ.2 7 j) (m7a : μ'.2 7 e = nI (ι c) ∧ μ'.2 7 (e + 1) = nI (tx T 13 c).length) (m7b : ∀ j x, (tx T 13 c)[j]? = some x → μ'.2 7 (e + 2 + j) = x) : RR (flT T c) ι μ' B sp (e + 2 + (tx T 13 c).length) := by
  obtain ⟨a1, a2, a3, a4, a5, a6, a7, a8, a9, bs, b1, b2⟩ := h
  have hw := a3 c hc
  have hfl := flT_wf hw hl
  obtain ⟨vc, hvc⟩ := Option.ne_none_iff_exists'.mp hc
  have hic := (a1 c vc hvc).1
  have l120 := (wf_okt 13 c hw).1
  have hni : ∀ x, T x ≠ none → x ≠ c → ι x ≠ ι c := fun x hx hne z => hne (a2 x c hx hc z)
  have hbk : BK (μ'.2 7) 0 (bs ++ [(ι c, (tx T 13 c).length)]) (e + 2 + (tx T 13 c).length) := BK_push bs 0 e b1 m7 m7a.1 m7a.2 hic (by omega)
  refine ⟨fun x v hx => ?_, fun a b ha hb => a2 a b ((flT_nn hc).mp ha) ((flT_nn hc).mp hb), fun x hx => (hfl 13 x (Nat.le_refl _) (a3 x ((flT_nn hc).mp hx))).1, fun x hx => ?_, ?_, ?_, ?_, m8, he, _, hbk, fun x t hx => ?_⟩
  · by_cases hxc : x = c
    · subst hxc
      rw [flT_s] at hx
      cases hx
      refine ⟨hic, ?_, ?_⟩
      · show μ'.2 0 (ι x) = nI 1
        rw [m0, pk_us]
      · rw [m3, (a1 x vc hvc).2.2, tx_leaf (flT_s T x)]
    · have hx' := hx
      rw [flT_n hxc] at hx'
      have hxn : T x ≠ none := by rw [hx']; exact fun z => by cases z
      obtain ⟨g1, g2, g3⟩ := a1 x v hx'
      have hne := hni x hxn hxc
      refine ⟨g1, ?_, ?_⟩
      · rcases v with t | q | q
        · show μ'.2 0 (ι x) = _
          rw [m0, pk_un hne]; exact g2
        · show μ'.2 0 (ι x) = _ ∧ μ'.2 1 (ι x) = _ ∧ μ'.2 2 (ι x) = _
          rw [m0, m1, m2, pk_un hne, pk_un hne]; exact g2
        · show μ'.2 0 (ι x) = _ ∧ μ'.2 1 (ι x) = _ ∧ μ'.2 2 (ι x) = _
          rw [m0, m1, m2, pk_un hne, pk_un hne]; exact g2
      · rw [m3, g3, (hfl 13 x (Nat.le_refl _) (a3 x hxn)).2]
  · have hxc : x ≠ c := fun z => hc (by rw [← z]; exact a4 x hx)
    rw [flT_n hxc]; exact a4 x hx
  · rw [m6]; exact a5
  · rw [m5]; exact a6
  · rw [m0, a7]
    refine (FZ_congr 20480 (fun j hj => ?_)).symm
    by_cases hjc : j = ι c
    · subst hjc
      rw [pk_us]
      exact ⟨fun z => absurd z (by decide), fun z => absurd z (RK_busy a1 hc)⟩
    · rw [pk_un hjc]
  · by_cases hxc : x = c
    · subst hxc
      rw [flT_s] at hx
      cases hx
      have hbe := BK_end bs 0 e b1
      have hbs : bst (bs ++ [(ι x, (tx T 13 x).length)]) bs.length = e := by
        rw [bst_app bs _ _ (Nat.le_refl _)]; omega
      refine ⟨bs.length, by simp, ?_, ?_⟩
      · rw [hbs, m1, pk_us]
      · rw [hbs]; exact m7b
    · rw [flT_n hxc] at hx
      have hxn : T x ≠ none := by rw [hx]; exact fun z => by cases z
      obtain ⟨k, k1, k2, k3⟩ := b2 x t hx
      have hkl := (List.getElem?_eq_some_iff.mp k1).1
      have hat := BK_at bs 0 e k _ b1 k1
      dsimp only at hat
      refine ⟨k, by rw [List.getElem?_append_left hkl]; exact k1, ?_, ?_⟩
      · rw [bst_app bs _ _ (by omega), m1, pk_un (hni x hxn hxc)]; exact k2
      · intro j y hj
        have hjl := (List.getElem?_eq_some_iff.mp hj).1
        rw [bst_app bs _ _ (by omega), m7 _ (by omega)]
        exact k3 j y hj
section
variable {T : sT} {ι : Nat → Nat} {μ : rf_M} {B sp e : Nat} {sl : List Nat} {im : Nat → Option (List Nat)} {en nu : List Nat} {ev : Nat} {dr : List Int32} {sm dp lo : Nat}
theorem k_flat (h : MS T ι μ B sp e sl im en nu ev dr sm dp lo) (s : Int32) : P_flat [.inr (some 39), .inl s] μ 0 0 (mI (fun r μ' => (ix sl s = none ∧ r = Int32.ofInt (-1) ∧ μ' = μ) ∨ (∃ c, ix sl s = some c ∧ r = nI (pcs T 13 c).length ∧ ∃ T2 sp2 e2, (∀ c v, T2 c = some v → T c = some v) ∧ (∀ r ∈ rts sl im en, T2 r ≠ none) ∧ (∀ c, T2 c ≠ none → wf T2 13 c) ∧ MS (flT T2 c) ι μ' B sp2 e2 sl im en nu ev dr sm dp lo))) := by
  refine e_flat s μ _ ?_
  simp only [r_flat_0, r_flat_1, r_flat_4, r_flat_7, r_flat_8, r_flat_9, r_flat_10, r_flat_13, r_flat_14, r_flat_17, r_flat_18, r_flat_19, r_flat_20, r_flat_21, r_flat_22, r_flat_23, r_flat_26, r_flat_27, r_flat_28, r_flat_31, r_flat_33, r_flat_34, r_flat_37, r_flat_38, r_flat_39, r_flat_40, r_flat_43, r_flat_44, r_flat_47, r_flat_48, r_flat_49, r_flat_50, r_flat_51, r_flat_54, r_flat_55, r_flat_56, r_flat_57, r_flat_58, r_flat_61, r_flat_62, r_flat_64]
  refine ⟨_, k_isSlot μ s, ?_⟩
  rintro r s' ⟨hs, hr⟩
  subst hs
  subst hr
  rcases ix_8 h.2.1.1.1 s with ⟨h1, h2⟩ | ⟨j, c, rfl, hj, hc, h1, h2⟩
  · rw [if_neg h2]
    simp only [mI_e]
    exact ⟨fun z => absurd (by decide) z, fun _ => Or.inl ⟨h1, by trivial, by trivial⟩⟩
  rw [if_pos h2]
  refine ⟨fun _ => ?_, fun z => absurd (by decide) z⟩
  refine ⟨_, k_makeRoom h.1 h.2.1 (MS_roots h), ?_⟩
  rintro s1 ⟨T2, sp2, e2, g1, g2, g3, g4, g5, g6⟩
  have hm := MS_room h g1 g2 g3 g6 (by decide)
  obtain ⟨w1, w2, w3, w4, w5, w6, w7⟩ := MS_sl hm hc
  have hpc : pcs T 13 c = pcs T2 13 c := (ext_wf g1 13 c w2).2.2.1
  have l120 := (wf_okt 13 c w2).1
  simp only [nI_clamp (show j < 2 ^ 31 by omega), vp_in_i (show j < 2 ^ 31 by omega), hj, true_and, w5]
  refine ⟨_, k_layText hm.1.1 hm.1.x w2 (pre := []) (AP_nil _) (by simp), ?_⟩
  rintro r s2 ⟨rfl, p1, p2, p3⟩
  rw [List.nil_append] at p3
  have hm2 : MS T2 ι s2 B sp2 e2 sl im en nu ev dr sm dp lo := MS_ch hm p1 (by decide)
  simp only [p2, nI_clamp (show ι c < 2 ^ 31 by omega), vp_in_i (show ι c < 2 ^ 31 by omega), w4, true_and, kd_k hm2.1.1 w3]
  obtain ⟨v, hv⟩ := Option.ne_none_iff_exists'.mp w3
  have fin : ∀ {sp3 e3 : Nat} {μ' : rf_M}, MS (flT T2 c) ι μ' B sp3 e3 sl im en nu ev dr sm dp lo → mI (fun r μ' => (ix sl (nI j) = none ∧ r = Int32.ofInt (-1) ∧ μ' = s') ∨ (∃ c, ix sl (nI j) = some c ∧ r = nI (pcs T 13 c).length ∧ ∃ T2 sp2 e2, (∀ c v, T2 c = some v → T c = some v) ∧ (∀ r ∈ rts sl im en, T2 r ≠ none) ∧ (∀ c, T2 c ≠ none → wf T2 13 c) ∧ MS (flT T2 c) ι μ' B sp2 e2 sl im en nu ev dr sm dp lo)) (some (.inl (nI (pcs T2 13 c).length))) μ' := fun hM => by
    rw [mI_e]
    exact Or.inr ⟨c, h1, by rw [hpc], T2, _, _, g1, g2, hm.1.2.2.1, hM⟩
  by_cases hlf : ∃ t, T2 c = some (.inl t)
  · obtain ⟨t, ht⟩ := hlf
    have ek : kd T2 c = 0 := by simp only [kd, ht]
    rw [ek]
    refine ⟨fun _ => fin (sp3 := sp2) (e3 := e2) (by rw [flT_leaf ht]; exact hm2), fun z => absurd rfl z⟩
  · have hl : ∀ t, T2 c ≠ some (.inl t) := fun t ht => hlf ⟨t, ht⟩
    have ek : kd T2 c = 1 ∨ kd T2 c = 2 := by
      rcases v with t | q | q
      · exact absurd hv (hl t)
      · exact Or.inl (by simp only [kd, hv])
      · exact Or.inr (by simp only [kd, hv])
    refine ⟨fun z => ?_, fun _ => ?_⟩
    · rcases ek with ek | ek <;> rw [ek] at z <;> exact absurd z (by decide)
    have e8 : s2.1 8 = nI e2 := hm2.1.2.2.2.2.2.2.2.1
    refine ⟨_, k_keepText _ (nI (ι c)) (tx T2 13 c).length e2 e8 (by omega) (by omega), ?_⟩
    rintro r s3 ⟨rfl, rfl⟩
    have m21 : rf_up s2.2 0 (ι c) (nI 1) 21 = s2.2 21 := rf_up_n (by decide)
    have hch : CH [0, 1, 7, 8] s2 ((keptT (s2.1, rf_up s2.2 0 (ι c) (nI 1)) e2 (nI (ι c)) (tx T2 13 c).length).1, rf_up (keptT (s2.1, rf_up s2.2 0 (ι c) (nI 1)) e2 (nI (ι c)) (tx T2 13 c).length).2 1 (ι c) (nI (e2 + 2))) := CH_a2 (CH_i2 (CH_s2 (CH_a2 (CH_rf _ _) (by decide)) (by decide)) (by decide)) (by decide)
    have hRR := RR_flat (μ' := ((keptT (s2.1, rf_up s2.2 0 (ι c) (nI 1)) e2 (nI (ι c)) (tx T2 13 c).length).1, rf_up (keptT (s2.1, rf_up s2.2 0 (ι c) (nI 1)) e2 (nI (ι c)) (tx T2 13 c).length).2 1 (ι c) (nI (e2 + 2)))) hm2.1 w3 hl (by omega)
      (by simp [keptT, rf_set, rf_up]) (by simp [keptT, rf_set, rf_up]) (hch 2 (by decide)).2 (hch 3 (by decide)).2 (hch 5 (by decide)).1 (hch 6 (by decide)).1
      (by show upd s2.1 8 (nI (e2 + 2 + (tx T2 13 c).length)) 8 = _; exact pk_us)
      (fun x hx => by show ktx (s2.2 7) e2 (nI (ι c)) (tx T2 13 c).length (rf_up s2.2 0 (ι c) (nI 1) 21) (tx T2 13 c).length x = _; exact ktx_lt hx)
      (by show ktx (s2.2 7) e2 (nI (ι c)) (tx T2 13 c).length (rf_up s2.2 0 (ι c) (nI 1) 21) (tx T2 13 c).length e2 = _ ∧ ktx (s2.2 7) e2 (nI (ι c)) (tx T2 13 c).length (rf_up s2.2 0 (ι c) (nI 1) 21) (tx T2 13 c).length (e2 + 1) = _; exact ktx_e)
      (fun x y hx => by
        have hxl := (List.getElem?_eq_some_iff.mp hx).1
        show ktx (s2.2 7) e2 (nI (ι c)) (tx T2 13 c).length (rf_up s2.2 0 (ι c) (nI 1) 21) (tx T2 13 c).length (e2 + 2 + x) = _
        rw [ktx_in hxl, m21]
        exact p3 x y hx)
    refine fin (sp3 := sp2) (e3 := e2 + 2 + (tx T2 13 c).length) ?_
    obtain ⟨a1, a2, a3, a4, a5, a6, a7, a8, a9⟩ := hm2
    refine ⟨hRR, RO_ch a2 hch (by decide), fun r hr => (flT_wf w2 hl 12 r (by omega) (a3 r hr)).1, a4, ?_, ?_, ?_, ?_, a9⟩
    · rw [(hch 13 (by decide)).2]; exact a5
    · rw [(hch 15 (by decide)).1]; exact a6
    · rw [(hch 17 (by decide)).1, (hch 16 (by decide)).2]; exact a7
    · rw [(hch 18 (by decide)).1, (hch 19 (by decide)).1, (hch 20 (by decide)).1]; exact a8
end
