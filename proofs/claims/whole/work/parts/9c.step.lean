/-! ===== class and reference, call by call ===== -/
def JI (N : Nat) (σ : xS) (μ : rf_M) : Prop := ∃ T ι B sq e sl im en nu ev dr sm dp lo tn st sp, XS σ T sl im en nu ev dr sm dp lo tn st sp ∧ MS T ι μ B sq e sl im en nu ev dr sm dp lo ∧ tn ≤ N ∧ st ≤ N
def STEP (N : Nat) (PX : (Option mV → xS → Prop) → Prop) (PR : (Option mV → rf_M → Prop) → Prop) : Prop := ∃ Q1 : Int32 → xS → Prop, PX (mI Q1) ∧ ∀ r σ', Q1 r σ' → ∃ Q2 : Int32 → rf_M → Prop, PR (mI Q2) ∧ ∀ r' μ', Q2 r' μ' → r = r' ∧ JI (N + 1) σ' μ'
theorem A_sign_u {T : sT} {sl : List Nat} {s i r r' : Int32} (h : A_sign T sl s i r) (h' : A_sign T sl s i r') : r = r' := by
  cases hc : ix sl s with
  | none => rw [h.1 hc, h'.1 hc]
  | some c => rw [h.2 c hc, h'.2 c hc]
theorem A_hash_u {T : sT} {sl : List Nat} {s r r' : Int32} (h : A_hash T sl s r) (h' : A_hash T sl s r') : r = r' := by
  cases hc : ix sl s with
  | none => rw [h.1 hc, h'.1 hc]
  | some c => rw [h.2 c hc, h'.2 c hc]
theorem A_told_u {T : sT} {sl : List Nat} {s w r r' : Int32} (h : A_told T sl s w r) (h' : A_told T sl s w r') : r = r' := by
  cases hc : ix sl s with
  | none => rw [h.1 hc, h'.1 hc]
  | some c =>
    obtain ⟨a0, a1, a2, a3, a4, a5, a6, a7⟩ := h.2 c hc
    obtain ⟨b0, b1, b2, b3, b4, b5, b6, b7⟩ := h'.2 c hc
    have hw : (w.toInt < 0 ∨ 6 < w.toInt) ∨ w.toInt = 0 ∨ w.toInt = 1 ∨ w.toInt = 2 ∨ w.toInt = 3 ∨ w.toInt = 4 ∨ w.toInt = 5 ∨ w.toInt = 6 := by omega
    rcases hw with z | z | z | z | z | z | z | z
    · rw [a0 z, b0 z]
    · rw [a1 z, b1 z]
    · rw [a2 z, b2 z]
    · rw [a3 z, b3 z]
    · rw [a4 z, b4 z]
    · rw [a5 z, b5 z]
    · rw [a6 z, b6 z]
    · rw [a7 z, b7 z]
theorem A_piece_u {T : sT} {sl : List Nat} {s i w r r' : Int32} (h : A_piece T sl s i w r) (h' : A_piece T sl s i w r') : r = r' := by
  cases hc : ix sl s with
  | none => rw [h.1 hc, h'.1 hc]
  | some c =>
    obtain ⟨a0, a1⟩ := h.2 c hc
    obtain ⟨b0, b1⟩ := h'.2 c hc
    by_cases hw : nI 0 ≤ w ∧ w ≤ nI 3
    · obtain ⟨a1, a2⟩ := a1 hw
      obtain ⟨b1, b2⟩ := b1 hw
      cases hp : ix (pcs T 13 c) i with
      | none => rw [a1 hp, b1 hp]
      | some p =>
        obtain ⟨c0, c1, c2, c3⟩ := a2 p hp
        obtain ⟨d0, d1, d2, d3⟩ := b2 p hp
        rcases nI_03 hw with z | z | z | z
        · rw [c0 z, d0 z]
        · rw [c1 z, d1 z]
        · rw [c2 z, d2 z]
        · rw [c3 z, d3 z]
    · rw [a0 hw, b0 hw]
theorem A_alike_u {T : sT} {sl : List Nat} {a b w r r' : Int32} (h : A_alike T sl a b w r) (h' : A_alike T sl a b w r') : r = r' := by
  cases hc : ix sl a with
  | none => rw [h.1 (Or.inl hc), h'.1 (Or.inl hc)]
  | some c =>
    cases hd : ix sl b with
    | none => rw [h.1 (Or.inr hd), h'.1 (Or.inr hd)]
    | some d =>
      obtain ⟨a0, a1, a2, a3, a4, a5⟩ := h.2 c d hc hd
      obtain ⟨b0, b1, b2, b3, b4, b5⟩ := h'.2 c d hc hd
      have hw : (w.toInt < 0 ∨ 4 < w.toInt) ∨ w.toInt = 0 ∨ w.toInt = 1 ∨ w.toInt = 2 ∨ w.toInt = 3 ∨ w.toInt = 4 := by omega
      rcases hw with z | z | z | z | z | z
      · rw [a0 z, b0 z]
      · rw [a1 z, b1 z]
      · rw [a2 z, b2 z]
      · rw [a3 z, b3 z]
      · exact isPlc_u (a4 z) (b4 z)
      · rcases a5 z with ⟨p, q⟩ | ⟨p, q⟩ <;> rcases b5 z with ⟨p', q'⟩ | ⟨p', q'⟩
        · rw [q, q']
        · exact absurd p p'
        · exact absurd p' p
        · rw [q, q']
theorem nI_02 {w : Int32} (h : nI 0 ≤ w ∧ w ≤ nI 2) : w = nI 0 ∨ w = nI 1 ∨ w = nI 2 := by
  obtain ⟨k, rfl, -, hk⟩ := nI_rng (by omega) h (by omega)
  have : k = 0 ∨ k = 1 ∨ k = 2 := by omega
  rcases this with rfl | rfl | rfl
  · exact Or.inl rfl
  · exact Or.inr (Or.inl rfl)
  · exact Or.inr (Or.inr rfl)
theorem A_entry_u {T : sT} {sl en nu : List Nat} {i w r r' : Int32} (h : A_entry T sl en nu i w r) (h' : A_entry T sl en nu i w r') : r = r' := by
  by_cases hw : nI 0 ≤ w ∧ w ≤ nI 2
  · obtain ⟨a1, a2⟩ := h.2 hw
    obtain ⟨b1, b2⟩ := h'.2 hw
    cases hp : ix en i with
    | none => rw [a1 hp, b1 hp]
    | some p =>
      obtain ⟨c0, c1, c2⟩ := a2 p hp
      obtain ⟨d0, d1, d2⟩ := b2 p hp
      rcases nI_02 hw with z | z | z
      · obtain ⟨m, m1, m2⟩ := c0 z
        obtain ⟨m', m1', m2'⟩ := d0 z
        rw [m1] at m1'
        cases m1'
        rw [m2, m2']
      · rw [c1 z, d1 z]
      · rw [c2 z, d2 z]
  · rw [h.1 hw, h'.1 hw]
theorem A_count_u {T : sT} {sl : List Nat} {im : Nat → Option (List Nat)} {en : List Nat} {ev : Nat} {dr : List Int32} {sm dp lo : Nat} {w r r' : Int32} (h : A_count T sl im en ev dr sm dp lo w r) (h' : A_count T sl im en ev dr sm dp lo w r') : r = r' := by
  obtain ⟨a0, a1, a2, a3, a4, a5, a6, a7, a8, a9⟩ := h
  obtain ⟨b0, b1, b2, b3, b4, b5, b6, b7, b8, b9⟩ := h'
  have hw : (w.toInt < 0 ∨ 12 < w.toInt ∨ (5 < w.toInt ∧ w.toInt < 10)) ∨ w.toInt = 0 ∨ w.toInt = 1 ∨ w.toInt = 2 ∨ w.toInt = 3 ∨ w.toInt = 4 ∨ w.toInt = 5 ∨ w.toInt = 10 ∨ w.toInt = 11 ∨ w.toInt = 12 := by omega
  rcases hw with z | z | z | z | z | z | z | z | z | z
  · rw [a0 z, b0 z]
  · rw [a1 z, b1 z]
  · rw [a2 z, b2 z]
  · rw [a3 z, b3 z]
  · rw [a4 z, b4 z]
  · rw [a5 z, b5 z]
  · rw [a6 z, b6 z]
  · rw [a7 z, b7 z]
  · rw [a8 z, b8 z]
  · rw [a9 z, b9 z]
theorem A_rule_u {sm dp lo : Nat} {w n r r' : Int32} {a b c a' b' c' : Nat} (h : A_rule sm dp lo w n r a b c) (h' : A_rule sm dp lo w n r' a' b' c') : r = r' ∧ a = a' ∧ b = b' ∧ c = c' := by
  rcases h with ⟨k, h1, h2, h3, h4, h5, h6, h7⟩ | ⟨k, h1, h2, h3, h3', h4, h5, h6, h7⟩ | ⟨k, h1, h2, h3, h3', h4, h5, h6, h7⟩ | ⟨h0, h4, h5, h6, h7⟩ <;> rcases h' with ⟨k', g1, g2, g3, g4, g5, g6, g7⟩ | ⟨k', g1, g2, g3, g3', g4, g5, g6, g7⟩ | ⟨k', g1, g2, g3, g3', g4, g5, g6, g7⟩ | ⟨g0, g4, g5, g6, g7⟩
  · rw [h2, nI_eq (by omega) (by omega)] at g2
    exact ⟨by rw [h4, g4], by omega, by omega, by omega⟩
  · rw [h1] at g1; exact absurd g1 (by decide)
  · rw [h1] at g1; exact absurd g1 (by decide)
  · exact absurd (Or.inl ⟨h1, by rw [h2]; exact nI_rng' (by omega) (by omega) h3⟩) g0
  · rw [h1] at g1; exact absurd g1 (by decide)
  · rw [h2, nI_eq (by omega) (by omega)] at g2
    exact ⟨by rw [h4, g4], by omega, by omega, by omega⟩
  · rw [h1] at g1; exact absurd g1 (by decide)
  · exact absurd (Or.inr (Or.inl ⟨h1, by rw [h2]; exact nI_rng' (by omega) h3 h3'⟩)) g0
  · rw [h1] at g1; exact absurd g1 (by decide)
  · rw [h1] at g1; exact absurd g1 (by decide)
  · rw [h2, nI_eq (by omega) (by omega)] at g2
    exact ⟨by rw [h4, g4], by omega, by omega, by omega⟩
  · exact absurd (Or.inr (Or.inr ⟨h1, by rw [h2]; exact nI_rng' (by omega) h3 h3'⟩)) g0
  · exact absurd (Or.inl ⟨g1, by rw [g2]; exact nI_rng' (by omega) (by omega) g3⟩) h0
  · exact absurd (Or.inr (Or.inl ⟨g1, by rw [g2]; exact nI_rng' (by omega) g3 g3'⟩)) h0
  · exact absurd (Or.inr (Or.inr ⟨g1, by rw [g2]; exact nI_rng' (by omega) g3 g3'⟩)) h0
  · exact ⟨by rw [h4, g4], by omega, by omega, by omega⟩
theorem A_say_u {dr : List Int32} {x r r' : Int32} {d d' : List Int32} (h : A_say dr x r d) (h' : A_say dr x r' d') : r = r' ∧ d = d' := by
  by_cases hx : nI 1 ≤ x ∧ x ≤ nI 9999
  · obtain ⟨a1, a2⟩ := h.2 hx
    obtain ⟨b1, b2⟩ := h'.2 hx
    by_cases hl : dr.length = 40
    · rw [(a1 hl).1, (a1 hl).2, (b1 hl).1, (b1 hl).2]; exact ⟨rfl, rfl⟩
    · rw [(a2 hl).1, (a2 hl).2, (b2 hl).1, (b2 hl).2]; exact ⟨rfl, rfl⟩
  · rw [(h.1 hx).1, (h.1 hx).2, (h'.1 hx).1, (h'.1 hx).2]; exact ⟨rfl, rfl⟩
theorem A_copy_u {T : sT} {sl : List Nat} {t f r r' : Int32} {d d' : List Nat} (h : A_copy T sl t f r d) (h' : A_copy T sl t f r' d') : r = r' ∧ d = d' := by
  by_cases hx : ix sl t = none ∨ ix sl f = none
  · rw [(h.1 hx).1, (h.1 hx).2, (h'.1 hx).1, (h'.1 hx).2]; exact ⟨rfl, rfl⟩
  · have h1 : ix sl t ≠ none := fun z => hx (Or.inl z)
    obtain ⟨c, hc⟩ := Option.ne_none_iff_exists'.mp (fun z => hx (Or.inr z))
    rw [(h.2 c h1 hc).1, (h.2 c h1 hc).2, (h'.2 c h1 hc).1, (h'.2 c h1 hc).2]; exact ⟨rfl, rfl⟩
theorem A_image_u {sl : List Nat} {im : Nat → Option (List Nat)} {k r r' : Int32} {d d' : Nat → Option (List Nat)} (h : A_image sl im k r d) (h' : A_image sl im k r' d') : r = r' ∧ d = d' := by
  by_cases hx : nI 0 ≤ k ∧ k ≤ nI 1
  · obtain ⟨j, hj, -, hj1⟩ := nI_rng (by omega) hx (by omega)
    rw [(h.2 j (by omega) hj).1, (h.2 j (by omega) hj).2, (h'.2 j (by omega) hj).1, (h'.2 j (by omega) hj).2]; exact ⟨rfl, rfl⟩
  · rw [(h.1 hx).1, (h.1 hx).2, (h'.1 hx).1, (h'.1 hx).2]; exact ⟨rfl, rfl⟩
theorem A_restore_u {sl : List Nat} {im : Nat → Option (List Nat)} {k r r' : Int32} {d d' : List Nat} (h : A_restore sl im k r d) (h' : A_restore sl im k r' d') : r = r' ∧ d = d' := by
  by_cases hx : nI 0 ≤ k ∧ k ≤ nI 1
  · obtain ⟨j, hj, -, hj1⟩ := nI_rng (by omega) hx (by omega)
    obtain ⟨a1, a2⟩ := h.2 j (by omega) hj
    obtain ⟨b1, b2⟩ := h'.2 j (by omega) hj
    cases hi : im j with
    | none => rw [(a1 hi).1, (a1 hi).2, (b1 hi).1, (b1 hi).2]; exact ⟨rfl, rfl⟩
    | some l => rw [(a2 l hi).1, (a2 l hi).2, (b2 l hi).1, (b2 l hi).2]; exact ⟨rfl, rfl⟩
  · rw [(h.1 hx).1, (h.1 hx).2, (h'.1 hx).1, (h'.1 hx).2]; exact ⟨rfl, rfl⟩
theorem A_intern_u {T : sT} {sl en nu : List Nat} {ev : Nat} {s r r' : Int32} {a b c a' b' c' : List Nat} {d d' : Nat} (h : A_intern T sl en nu ev s r a b c d) (h' : A_intern T sl en nu ev s r' a' b' c' d') : r = r' ∧ a = a' ∧ b = b' ∧ c = c' ∧ d = d' := by
  cases hc : ix sl s with
  | none =>
    obtain ⟨h1, h2, h3, h4, h5⟩ := h.1 hc
    obtain ⟨g1, g2, g3, g4, g5⟩ := h'.1 hc
    rw [h1, h2, h3, h4, h5, g1, g2, g3, g4, g5]
    exact ⟨rfl, rfl, rfl, rfl, rfl⟩
  | some x =>
    obtain ⟨a1, a2⟩ := h.2 x hc
    obtain ⟨b1, b2⟩ := h'.2 x hc
    cases hf : fe T (tx T 13 x) en with
    | some i =>
      obtain ⟨u, m, h0, h0', h1, h2, h3, h4, h5⟩ := a1 i hf
      obtain ⟨u', m', g0, g0', g1, g2, g3, g4, g5⟩ := b1 i hf
      rw [h0] at g0; cases g0
      rw [h0'] at g0'; cases g0'
      rw [h1, h2, h3, h4, h5, g1, g2, g3, g4, g5]
      exact ⟨rfl, rfl, rfl, rfl, rfl⟩
    | none =>
      by_cases hl : en.length = 24
      · obtain ⟨h1, h2, h3, h4, h5⟩ := (a2 hf).1 hl
        obtain ⟨g1, g2, g3, g4, g5⟩ := (b2 hf).1 hl
        rw [h1, h2, h3, h4, h5, g1, g2, g3, g4, g5]
        exact ⟨rfl, rfl, rfl, rfl, rfl⟩
      · obtain ⟨h1, h2, h3, h4, h5⟩ := (a2 hf).2 hl
        obtain ⟨g1, g2, g3, g4, g5⟩ := (b2 hf).2 hl
        rw [h1, h2, h3, h4, h5, g1, g2, g3, g4, g5]
        exact ⟨rfl, rfl, rfl, rfl, rfl⟩
theorem XS_sub {σ : xS} {T T2 : sT} {sl : List Nat} {im : Nat → Option (List Nat)} {en nu : List Nat} {ev : Nat} {dr : List Int32} {sm dp lo tn st : Nat} {sp : List Nat} (h : XS σ T sl im en nu ev dr sm dp lo tn st sp) (hs : ∀ c v, T2 c = some v → T c = some v) (hw : ∀ c, T2 c ≠ none → wf T2 13 c) (hr : ∀ r ∈ rts sl im en, wf T2 12 r) : XS σ T2 sl im en nu ev dr sm dp lo tn st sp := ⟨WS_sub h.1 hs hw, h.2.1, hr, h.2.2.2⟩
section
variable {N : Nat} {σ : xS} {μ : rf_M}
/-- calls that read -/
theorem stp_sign (h : JI N σ μ) (s i : Int32) : STEP N (P_X6_sign [.inr (some 0), .inl s, .inl i] σ 0 0) (P_sign [.inr (some 39), .inl s, .inl i] μ 0 0) := by
  obtain ⟨T, ι, B, sq, e, sl, im, en, nu, ev, dr, sm, dp, lo, tn, st, sp, hX, hM, h1, h2⟩ := h
  refine ⟨_, p_sign hX s i, ?_⟩
  rintro r σ' ⟨hr, hX'⟩
  refine ⟨_, k_sign hM s i, ?_⟩
  rintro r' μ' ⟨hc, hr'⟩
  exact ⟨A_sign_u hr hr', T, ι, B, sq, e, sl, im, en, nu, ev, dr, sm, dp, lo, tn, st, sp, hX', MS_ch hM hc (by decide), by omega, by omega⟩
theorem stp_hash (h : JI N σ μ) (s : Int32) : STEP N (P_X6_hash [.inr (some 0), .inl s] σ 0 0) (P_hash [.inr (some 39), .inl s] μ 0 0) := by
  obtain ⟨T, ι, B, sq, e, sl, im, en, nu, ev, dr, sm, dp, lo, tn, st, sp, hX, hM, h1, h2⟩ := h
  refine ⟨_, p_hash hX s, ?_⟩
  rintro r σ' ⟨hr, hX'⟩
  refine ⟨_, k_hash hM s, ?_⟩
  rintro r' μ' ⟨hc, hr'⟩
  exact ⟨A_hash_u hr hr', T, ι, B, sq, e, sl, im, en, nu, ev, dr, sm, dp, lo, tn, st, sp, hX', MS_ch hM hc (by decide), by omega, by omega⟩
theorem stp_told (h : JI N σ μ) (hN : N < 2 ^ 20) (s w : Int32) : STEP N (P_X6_told [.inr (some 0), .inl s, .inl w] σ 0 0) (P_told [.inr (some 39), .inl s, .inl w] μ 0 0) := by
  obtain ⟨T, ι, B, sq, e, sl, im, en, nu, ev, dr, sm, dp, lo, tn, st, sp, hX, hM, h1, h2⟩ := h
  refine ⟨_, p_told hX (by omega) s w, ?_⟩
  rintro r σ' ⟨hr, st', h3, hX'⟩
  refine ⟨_, k_told hM s w, ?_⟩
  rintro r' μ' ⟨hc, hr'⟩
  exact ⟨A_told_u hr hr', T, ι, B, sq, e, sl, im, en, nu, ev, dr, sm, dp, lo, tn, st', sp, hX', MS_ch hM hc (by decide), by omega, by omega⟩
theorem stp_piece (h : JI N σ μ) (s i w : Int32) : STEP N (P_X6_piece [.inr (some 0), .inl s, .inl i, .inl w] σ 0 0) (P_piece [.inr (some 39), .inl s, .inl i, .inl w] μ 0 0) := by
  obtain ⟨T, ι, B, sq, e, sl, im, en, nu, ev, dr, sm, dp, lo, tn, st, sp, hX, hM, h1, h2⟩ := h
  refine ⟨_, p_piece hX s i w, ?_⟩
  rintro r σ' ⟨hr, hX'⟩
  refine ⟨_, k_piece hM s i w, ?_⟩
  rintro r' μ' ⟨hc, hr'⟩
  exact ⟨A_piece_u hr hr', T, ι, B, sq, e, sl, im, en, nu, ev, dr, sm, dp, lo, tn, st, sp, hX', MS_ch hM hc (by decide), by omega, by omega⟩
theorem stp_alike (h : JI N σ μ) (a b w : Int32) : STEP N (P_X6_alike [.inr (some 0), .inl a, .inl b, .inl w] σ 0 0) (P_alike [.inr (some 39), .inl a, .inl b, .inl w] μ 0 0) := by
  obtain ⟨T, ι, B, sq, e, sl, im, en, nu, ev, dr, sm, dp, lo, tn, st, sp, hX, hM, h1, h2⟩ := h
  refine ⟨_, p_alike hX a b w, ?_⟩
  rintro r σ' ⟨hr, hX'⟩
  refine ⟨_, k_alike hM a b w, ?_⟩
  rintro r' μ' ⟨hc, hr'⟩
  exact ⟨A_alike_u hr hr', T, ι, B, sq, e, sl, im, en, nu, ev, dr, sm, dp, lo, tn, st, sp, hX', MS_ch hM hc (by decide), by omega, by omega⟩
theorem stp_entry (h : JI N σ μ) (i w : Int32) : STEP N (P_X6_entry [.inr (some 0), .inl i, .inl w] σ 0 0) (P_entry [.inr (some 39), .inl i, .inl w] μ 0 0) := by
  obtain ⟨T, ι, B, sq, e, sl, im, en, nu, ev, dr, sm, dp, lo, tn, st, sp, hX, hM, h1, h2⟩ := h
  refine ⟨_, p_entry hX i w, ?_⟩
  rintro r σ' ⟨hr, hX'⟩
  refine ⟨_, k_entry hM i w, ?_⟩
  rintro r' μ' ⟨hc, hr'⟩
  exact ⟨A_entry_u hr hr', T, ι, B, sq, e, sl, im, en, nu, ev, dr, sm, dp, lo, tn, st, sp, hX', MS_ch hM hc (by decide), by omega, by omega⟩
theorem stp_count (h : JI N σ μ) (hN : N < 2 ^ 20) (w : Int32) : STEP N (P_X6_count [.inr (some 0), .inl w] σ 0 0) (P_count [.inr (some 39), .inl w] μ 0 0) := by
  obtain ⟨T, ι, B, sq, e, sl, im, en, nu, ev, dr, sm, dp, lo, tn, st, sp, hX, hM, h1, h2⟩ := h
  refine ⟨_, p_count hX (by omega) w, ?_⟩
  rintro r σ' ⟨hr, st', h3, hX'⟩
  refine ⟨_, k_count hM w, ?_⟩
  rintro r' μ' ⟨hc, hr'⟩
  exact ⟨A_count_u hr hr', T, ι, B, sq, e, sl, im, en, nu, ev, dr, sm, dp, lo, tn, st', sp, hX', MS_ch hM hc (by decide), by omega, by omega⟩
/-- calls that change -/
theorem stp_rule (h : JI N σ μ) (w n : Int32) : STEP N (P_X6_rule [.inr (some 0), .inl w, .inl n] σ 0 0) (P_rule [.inr (some 39), .inl w, .inl n] μ 0 0) := by
  obtain ⟨T, ι, B, sq, e, sl, im, en, nu, ev, dr, sm, dp, lo, tn, st, sp, hX, hM, h1, h2⟩ := h
  refine ⟨_, p_rule hX w n, ?_⟩
  rintro r σ' ⟨a, b, c, hr, hX'⟩
  refine ⟨_, k_rule hM w n, ?_⟩
  rintro r' μ' ⟨a', b', c', hr', hM'⟩
  obtain ⟨u0, rfl, rfl, rfl⟩ := A_rule_u hr hr'
  exact ⟨u0, T, ι, B, sq, e, sl, im, en, nu, ev, dr, a, b, c, tn, st, sp, hX', hM', by omega, by omega⟩
theorem stp_say (h : JI N σ μ) (x : Int32) : STEP N (P_X6_say [.inr (some 0), .inl x] σ 0 0) (P_say [.inr (some 39), .inl x] μ 0 0) := by
  obtain ⟨T, ι, B, sq, e, sl, im, en, nu, ev, dr, sm, dp, lo, tn, st, sp, hX, hM, h1, h2⟩ := h
  refine ⟨_, p_say hX x, ?_⟩
  rintro r σ' ⟨a, hr, hX'⟩
  refine ⟨_, k_say hM x, ?_⟩
  rintro r' μ' ⟨a', hr', hM'⟩
  obtain ⟨u0, rfl⟩ := A_say_u hr hr'
  exact ⟨u0, T, ι, B, sq, e, sl, im, en, nu, ev, a, sm, dp, lo, tn, st, sp, hX', hM', by omega, by omega⟩
theorem stp_copy (h : JI N σ μ) (t f : Int32) : STEP N (P_X6_copy [.inr (some 0), .inl t, .inl f] σ 0 0) (P_copy [.inr (some 39), .inl t, .inl f] μ 0 0) := by
  obtain ⟨T, ι, B, sq, e, sl, im, en, nu, ev, dr, sm, dp, lo, tn, st, sp, hX, hM, h1, h2⟩ := h
  refine ⟨_, p_copy hX t f, ?_⟩
  rintro r σ' ⟨a, hr, hX'⟩
  refine ⟨_, k_copy hM t f, ?_⟩
  rintro r' μ' ⟨a', hr', hM'⟩
  obtain ⟨u0, rfl⟩ := A_copy_u hr hr'
  exact ⟨u0, T, ι, B, sq, e, a, im, en, nu, ev, dr, sm, dp, lo, tn, st, sp, hX', hM', by omega, by omega⟩
theorem stp_image (h : JI N σ μ) (k : Int32) : STEP N (P_X6_image [.inr (some 0), .inl k] σ 0 0) (P_image [.inr (some 39), .inl k] μ 0 0) := by
  obtain ⟨T, ι, B, sq, e, sl, im, en, nu, ev, dr, sm, dp, lo, tn, st, sp, hX, hM, h1, h2⟩ := h
  refine ⟨_, p_image hX k, ?_⟩
  rintro r σ' ⟨a, hr, hX'⟩
  refine ⟨_, k_image hM k, ?_⟩
  rintro r' μ' ⟨a', hr', hM'⟩
  obtain ⟨u0, rfl⟩ := A_image_u hr hr'
  exact ⟨u0, T, ι, B, sq, e, sl, a, en, nu, ev, dr, sm, dp, lo, tn, st, sp, hX', hM', by omega, by omega⟩
theorem stp_restore (h : JI N σ μ) (k : Int32) : STEP N (P_X6_restore [.inr (some 0), .inl k] σ 0 0) (P_restore [.inr (some 39), .inl k] μ 0 0) := by
  obtain ⟨T, ι, B, sq, e, sl, im, en, nu, ev, dr, sm, dp, lo, tn, st, sp, hX, hM, h1, h2⟩ := h
  refine ⟨_, p_restore hX k, ?_⟩
  rintro r σ' ⟨a, hr, hX'⟩
  refine ⟨_, k_restore hM k, ?_⟩
  rintro r' μ' ⟨a', hr', hM'⟩
  obtain ⟨u0, rfl⟩ := A_restore_u hr hr'
  exact ⟨u0, T, ι, B, sq, e, a, im, en, nu, ev, dr, sm, dp, lo, tn, st, sp, hX', hM', by omega, by omega⟩
theorem stp_intern (h : JI N σ μ) (s : Int32) : STEP N (P_X6_intern [.inr (some 0), .inl s] σ 0 0) (P_intern [.inr (some 39), .inl s] μ 0 0) := by
  obtain ⟨T, ι, B, sq, e, sl, im, en, nu, ev, dr, sm, dp, lo, tn, st, sp, hX, hM, h1, h2⟩ := h
  refine ⟨_, p_intern hX s, ?_⟩
  rintro r σ' ⟨a, b, c, d, hr, hX'⟩
  refine ⟨_, k_intern hM s, ?_⟩
  rintro r' μ' ⟨a', b', c', d', hr', hM'⟩
  obtain ⟨u0, rfl, rfl, rfl, rfl⟩ := A_intern_u hr hr'
  exact ⟨u0, T, ι, B, sq, e, a, im, b, c, d, dr, sm, dp, lo, tn, st, sp, hX', hM', by omega, by omega⟩
theorem stp_sweep (h : JI N σ μ) (hN : N < 2 ^ 20) : STEP N (P_X6_sweep [.inr (some 0)] σ 0 0) (P_sweep [.inr (some 39)] μ 0 0) := by
  obtain ⟨T, ι, B, sq, e, sl, im, en, nu, ev, dr, sm, dp, lo, tn, st, sp, hX, hM, h1, h2⟩ := h
  refine ⟨_, p_sweep hX (by omega), ?_⟩
  rintro r σ' ⟨a, b, ⟨hr, ha, hb⟩, hX'⟩
  refine ⟨_, k_sweep hM, ?_⟩
  rintro r' μ' ⟨a', b', ⟨hr', ha', hb'⟩, hM'⟩
  rw [← ha] at ha'
  rw [← hb] at hb'
  subst ha'
  subst hb'
  exact ⟨by rw [hr, hr'], T, ι, B, sq, e, sl, im, a', b', ev, dr, sm, dp, lo, tn, st + 1, sp, hX', hM', by omega, by omega⟩
/-- calls that make cells -/
theorem stp_put (h : JI N σ μ) (s : Int32) : STEP N (P_X6_put [.inr (some 0), .inl s] σ 1100 13000) (P_put [.inr (some 39), .inl s] μ 0 0) := by
  obtain ⟨T, ι, B, sq, e, sl, im, en, nu, ev, dr, sm, dp, lo, tn, st, sp, hX, hM, h1, h2⟩ := h
  refine ⟨_, p_put' hX s (fun r σ' hp => by rw [mI_e]; exact hp), ?_⟩
  intro r σ' hp
  refine ⟨_, k_put hM s, ?_⟩
  intro r' μ' hq
  rcases hp with ⟨a1, a2, a3⟩ | ⟨j, a1, a2, a3, T', k, F, a4, a5⟩
  · rcases hq with ⟨b1, b2, b3⟩ | ⟨j', b1, b2, -⟩
    · subst b3
      exact ⟨by rw [a2, b2], T, ι, B, sq, e, sl, im, en, nu, ev, dr, sm, dp, lo, tn, st, sp, a3, hM, by omega, by omega⟩
    · rw [b2, ix_nI (by omega)] at a1
      have := List.getElem?_eq_none_iff.mp a1
      rw [XS_sl8 hX] at this
      omega
  · rcases hq with ⟨b1, b2, b3⟩ | ⟨j', b1, b2, b3, T2, T3, ι3, B3, sp3, e3, k3, F3, b4, b5⟩
    · rw [a2, ix_nI (by omega)] at b1
      have := List.getElem?_eq_none_iff.mp b1
      rw [XS_sl8 hX] at this
      omega
    · rw [a2, nI_eq (by omega) (by omega)] at b2
      subst b2
      obtain ⟨T4, ι4, B4, c1, c2, c3, c4⟩ := both b4 b5 a4 hX.2.2.1
      exact ⟨by rw [a3, b3], T4, ι4, B4, sp3, e3, sl.set j k, im, en, nu, ev, [], sm, dp, lo, tn, st, sp, XS_sub a5 c1 c2 c3, c4, by omega, by omega⟩
theorem stp_join (h : JI N σ μ) (hN : N < 2 ^ 20) (t a b : Int32) : STEP N (P_X6_join [.inr (some 0), .inl t, .inl a, .inl b] σ 1100 13000) (P_join [.inr (some 39), .inl t, .inl a, .inl b] μ 0 0) := by
  obtain ⟨T, ι, B, sq, e, sl, im, en, nu, ev, dr, sm, dp, lo, tn, st, sp, hX, hM, h1, h2⟩ := h
  refine ⟨_, p_join' hX (by omega) t a b (fun r σ' hp => by rw [mI_e]; exact hp), ?_⟩
  intro r σ' hp
  refine ⟨_, k_join hM t a b, ?_⟩
  intro r' μ' hq
  have h8 := XS_sl8 hX
  have no : ∀ j, j < 8 → ix sl (nI j) ≠ none := fun j hj z => by
    rw [ix_nI (by omega)] at z
    have := List.getElem?_eq_none_iff.mp z
    omega
  rcases hp with ⟨a1, a2, a3⟩ | ⟨j, c, d, a1, a2, a3, a4, a5⟩
  · rcases hq with ⟨b1, b2, b3⟩ | ⟨j', c', d', b1, b2, b3, b4, -⟩
    · subst b3
      exact ⟨by rw [a2, b2], T, ι, B, sq, e, sl, im, en, nu, ev, dr, sm, dp, lo, tn, st, sp, a3, hM, by omega, by omega⟩
    · rcases a1 with z | z | z
      · rw [b2] at z; exact absurd z (no j' b1)
      · rw [b3] at z; cases z
      · rw [b4] at z; cases z
  · rcases hq with ⟨b1, b2, b3⟩ | ⟨j', c', d', b1, b2, b3, b4, b5⟩
    · rcases b1 with z | z | z
      · rw [a2] at z; exact absurd z (no j a1)
      · rw [a3] at z; cases z
      · rw [a4] at z; cases z
    · rw [a2, nI_eq (by omega) (by omega)] at b2
      subst b2
      rw [a3] at b3; cases b3
      rw [a4] at b4; cases b4
      rcases a5 with ⟨c1, c2, c3⟩ | ⟨c1, c2, T', k, F, sp', c3, c4⟩
      · rcases b5 with ⟨d1, d2, d3⟩ | ⟨d1, -⟩
        · subst d3
          exact ⟨by rw [c2, d2], T, ι, B, sq, e, sl, im, en, nu, ev, dr, sm, dp, lo, tn, st, sp, c3, hM, by omega, by omega⟩
        · omega
      · rcases b5 with ⟨d1, -⟩ | ⟨d1, d2, T2, T3, ι3, B3, sp3, e3, k3, F3, d3, d4⟩
        · omega
        · have hcr : ∀ {x : Int32} {y : Nat}, ix sl x = some y → wf T2 12 y := fun hy => ext_12 d3.1 (d3.2.2.1 _ (d3.2.1 _ (XS_ix hX hy))) (hX.2.2.1 _ (XS_ix hX hy))
          have ej : joinT T sm dp (tl (.inl c)) (tl (.inl d)) = joinT T2 sm dp (tl (.inl c)) (tl (.inl d)) := joinT_ext d3.1 (hcr a3) (hcr a4)
          rw [ej] at c3
          obtain ⟨T4, ι4, B4, e1, e2, e3', e4⟩ := both d3 d4 c3 hX.2.2.1
          exact ⟨by rw [c2, d2], T4, ι4, B4, sp3, e3, sl.set j k, im, en, nu, ev, dr, sm, dp, lo, tn + 1, st, sp', XS_sub c4 e1 e2 e3', e4, by omega, by omega⟩
theorem stp_cut (h : JI N σ μ) (hN : N < 2 ^ 20) (t a f n : Int32) : STEP N (P_X6_cut [.inr (some 0), .inl t, .inl a, .inl f, .inl n] σ 1100 13000) (P_cut [.inr (some 39), .inl t, .inl a, .inl f, .inl n] μ 0 0) := by
  obtain ⟨T, ι, B, sq, e, sl, im, en, nu, ev, dr, sm, dp, lo, tn, st, sp, hX, hM, h1, h2⟩ := h
  refine ⟨_, p_cut' hX (by omega) t a f n (fun r σ' hp => by rw [mI_e]; exact hp), ?_⟩
  intro r σ' hp
  refine ⟨_, k_cut hM t a f n, ?_⟩
  intro r' μ' hq
  have h8 := XS_sl8 hX
  have no : ∀ j, j < 8 → ix sl (nI j) ≠ none := fun j hj z => by
    rw [ix_nI (by omega)] at z
    have := List.getElem?_eq_none_iff.mp z
    omega
  rcases hp with ⟨a1, a2, a3⟩ | ⟨j, c, a1, a2, a3, a5⟩
  · rcases hq with ⟨b1, b2, b3⟩ | ⟨j', c', b1, b2, b3, -⟩
    · subst b3
      exact ⟨by rw [a2, b2], T, ι, B, sq, e, sl, im, en, nu, ev, dr, sm, dp, lo, tn, st, sp, a3, hM, by omega, by omega⟩
    · rcases a1 with z | z
      · rw [b2] at z; exact absurd z (no j' b1)
      · rw [b3] at z; cases z
  · rcases hq with ⟨b1, b2, b3⟩ | ⟨j', c', b1, b2, b3, b5⟩
    · rcases b1 with z | z
      · rw [a2] at z; exact absurd z (no j a1)
      · rw [a3] at z; cases z
    · rw [a2, nI_eq (by omega) (by omega)] at b2
      subst b2
      rw [a3] at b3; cases b3
      obtain ⟨-, -, -, -, l120, -⟩ := XS_c hX (XS_ix hX a3)
      rcases a5 with ⟨c1, c2, c3⟩ | ⟨x, y, c0, c1, c2, c2', T', k, F, sp', c3, c4⟩
      · rcases b5 with ⟨d1, d2, d3⟩ | ⟨x, y, d0, d1, d2, -⟩
        · subst d3
          exact ⟨by rw [c2, d2], T, ι, B, sq, e, sl, im, en, nu, ev, dr, sm, dp, lo, tn, st, sp, c3, hM, by omega, by omega⟩
        · exact absurd ⟨x, y, d0, d1, d2⟩ c1
      · rcases b5 with ⟨d1, -⟩ | ⟨x', y', d0, d1, d2, d2', T2, T3, ι3, B3, sp3, e3, k3, F3, d3, d4⟩
        · exact absurd ⟨x, y, c0, c1, c2⟩ d1
        · rw [c0, nI_eq (by omega) (by omega)] at d0
          rw [c1, nI_eq (by omega) (by omega)] at d1
          subst d0
          subst d1
          obtain ⟨q1, q2, q3, q4, q5⟩ := hX.2.2.2.2
          have hcw := hX.2.2.1 c (XS_ix hX a3)
          have hc2 : wf T2 12 c := ext_12 d3.1 (d3.2.2.1 _ (d3.2.1 _ (XS_ix hX a3))) hcw
          have et : tx T 12 c = tx T2 12 c := (ext_wf d3.1 12 c hc2).2.1
          have e13 : tx T 13 c = tx T 12 c := (wf_up 12 c hcw).2.1
          have ej : cutT T sm dp lo 12 c x y = cutT T2 sm dp lo 12 c x y := cutT_ext d3.1 q3 ⟨q4, q5⟩ 12 c x y (Nat.le_refl _) hc2 (by rw [← et, ← e13]; exact c2)
          rw [ej] at c3
          obtain ⟨T4, ι4, B4, e1, e2, e3', e4⟩ := both d3 d4 c3 hX.2.2.1
          exact ⟨by rw [c2', d2'], T4, ι4, B4, sp3, e3, sl.set j k, im, en, nu, ev, dr, sm, dp, lo, tn + 1, st, sp', XS_sub c4 e1 e2 e3', e4, by omega, by omega⟩
theorem stp_flat (h : JI N σ μ) (s : Int32) : STEP N (P_X6_flat [.inr (some 0), .inl s] σ 1100 13000) (P_flat [.inr (some 39), .inl s] μ 0 0) := by
  obtain ⟨T, ι, B, sq, e, sl, im, en, nu, ev, dr, sm, dp, lo, tn, st, sp, hX, hM, h1, h2⟩ := h
  refine ⟨_, p_flat' hX s (fun r σ' hp => by rw [mI_e]; exact hp), ?_⟩
  intro r σ' hp
  refine ⟨_, k_flat hM s, ?_⟩
  intro r' μ' hq
  rcases hp with ⟨a1, a2, a3⟩ | ⟨c, a1, a2, a3⟩
  · rcases hq with ⟨b1, b2, b3⟩ | ⟨c', b1, -⟩
    · subst b3
      exact ⟨by rw [a2, b2], T, ι, B, sq, e, sl, im, en, nu, ev, dr, sm, dp, lo, tn, st, sp, a3, hM, by omega, by omega⟩
    · rw [a1] at b1; cases b1
  · rcases hq with ⟨b1, b2, b3⟩ | ⟨c', b1, b2, T2, sp2, e2, b3, b4, b5, b6⟩
    · rw [a1] at b1; cases b1
    · rw [a1] at b1; cases b1
      have hc2 : wf T2 13 c := b5 c (b4 c (XS_ix hX a1))
      exact ⟨by rw [a2, b2], flT T2 c, ι, B, sp2, e2, sl, im, en, nu, ev, dr, sm, dp, lo, tn, st, sp, XS_sub a3 (flT_sub b3 hc2) b6.1.2.2.1 b6.2.2.1, b6, by omega, by omega⟩
end
