/-! ===== the reference: room ===== -/
/-- a store cut down to a set that is closed -/
def res (T : sT) (V : List Nat) : sT := fun c => if c ∈ V then T c else none
theorem res_in {T : sT} {V : List Nat} {c : Nat} (h : c ∈ V) : res T V c = T c := by simp only [res, if_pos h]
theorem res_no {T : sT} {V : List Nat} {c : Nat} (h : c ∉ V) : res T V c = none := by simp only [res, if_neg h]
theorem res_ext {T : sT} {V : List Nat} : ∀ c v, res T V c = some v → T c = some v := fun c v h => by
  by_cases hc : c ∈ V
  · rwa [res_in hc] at h
  · rw [res_no hc] at h; cases h
theorem res_wf {T : sT} {V : List Nat} (hV : ∀ x ∈ V, ∀ y ∈ ch T x, y ∈ V) : ∀ (n c : Nat), wf T n c → c ∈ V → wf (res T V) n c ∧ tx (res T V) n c = tx T n c := by
  have oksr : ∀ q, oks T q → q.1 ∈ V → oks (res T V) q ∧ lfT (res T V) q.1 = lfT T q.1 := fun q hq hm => by
    obtain ⟨t, h1, h2⟩ := hq
    exact ⟨⟨t, by rw [res_in hm]; exact h1, h2⟩, by simp only [lfT, res_in hm]⟩
  intro n
  induction n with
  | zero =>
    intro c hw hc
    rcases wf_cases hw with ⟨t, h, ht⟩ | ⟨q, h, hq⟩ | ⟨k, q, hk, -⟩
    · have h' : res T V c = _ := (res_in hc).trans h
      exact ⟨(wf_leaf h').mpr ht, by rw [tx_leaf h', tx_leaf h]⟩
    · have h' : res T V c = _ := (res_in hc).trans h
      obtain ⟨o1, o2⟩ := oksr q hq (hV c hc q.1 (by rw [ch_slice h]; simp))
      exact ⟨(wf_slice h').mpr o1, by rw [tx_slice h', tx_slice h, o2]⟩
    · cases hk
  | succ n ih =>
    intro c hw hc
    rcases wf_cases hw with ⟨t, h, ht⟩ | ⟨q, h, hq⟩ | ⟨k, q, hk, h, h1, h2, h3, h4, h5⟩
    · have h' : res T V c = _ := (res_in hc).trans h
      exact ⟨(wf_leaf h').mpr ht, by rw [tx_leaf h', tx_leaf h]⟩
    · have h' : res T V c = _ := (res_in hc).trans h
      obtain ⟨o1, o2⟩ := oksr q hq (hV c hc q.1 (by rw [ch_slice h]; simp))
      exact ⟨(wf_slice h').mpr o1, by rw [tx_slice h', tx_slice h, o2]⟩
    · cases hk
      have h' : res T V c = _ := (res_in hc).trans h
      obtain ⟨a1, a2⟩ := ih q.1 h1 (hV c hc q.1 (by rw [ch_join h]; simp))
      obtain ⟨b1, b2⟩ := ih q.2 h2 (hV c hc q.2 (by rw [ch_join h]; simp))
      exact ⟨(wf_join h').mpr ⟨a1, b1, by rw [a2]; exact h3, by rw [b2]; exact h4, by rw [a2, b2]; exact h5⟩, by rw [tx_join h', tx_join h, a2, b2]⟩
/-- each once, among those: no more than those -/
theorem ns_sum (w : Nat → Nat) : ∀ (V L : List Nat), V.Nodup → (∀ x ∈ V, x ∈ L) → (V.map w).sum ≤ (L.map w).sum
  | [], L, _, _ => by simp
  | a :: V, L, hn, h => by
    obtain ⟨h1, h2⟩ := List.nodup_cons.mp hn
    have ha := h a List.mem_cons_self
    have ih := ns_sum w V (L.erase a) h2 (fun x hx => (List.mem_erase_of_ne (show x ≠ a from fun e => h1 (e ▸ hx))).mpr (h x (List.mem_cons_of_mem _ hx)))
    have hp := ((List.perm_cons_erase ha).map w).sum_nat
    simp only [List.map_cons, List.sum_cons] at hp ⊢
    omega
theorem sum_one (L : List Nat) : (L.map (fun _ => 1)).sum = L.length := by
  induction L with
  | nil => rfl
  | cons a L ih => simp only [List.map_cons, List.sum_cons, List.length_cons, ih]; omega
theorem FZ_low {f : Nat → Int32} : ∀ (N : Nat) (L : List Nat), (∀ j, j < N → ¬ f j = 0 → j ∈ L) → N ≤ FZ f N + L.length
  | 0, _, _ => Nat.zero_le _
  | N + 1, L, h => by
    by_cases hf : f N = 0
    · have := FZ_low N L (fun j hj => h j (by omega))
      simp only [FZ, if_pos hf]; omega
    · have hm := h N (by omega) hf
      have := FZ_low (f := f) N (L.erase N) (fun j hj hz => (List.mem_erase_of_ne (by omega)).mpr (h j (by omega) hz))
      rw [List.length_erase_of_mem hm] at this
      have : 0 < L.length := List.length_pos_of_mem hm
      simp only [FZ, if_neg hf]; omega
/-- how many cells a cell has; how long its leaves are -/
theorem rl_len {T : sT} : ∀ (n c : Nat), wf T n c → (rl T n c).length + 1 ≤ 3 * (pcs T n c).length := by
  intro n
  induction n with
  | zero =>
    intro c hw
    rcases wf_cases hw with ⟨t, h, ht⟩ | ⟨q, h, hq⟩ | ⟨k, q, hk, -⟩
    · rw [rl_leaf h, pcs_leaf h]; simp
    · rw [rl_slice h, pcs_slice h]; simp
    · cases hk
  | succ n ih =>
    intro c hw
    rcases wf_cases hw with ⟨t, h, ht⟩ | ⟨q, h, hq⟩ | ⟨k, q, hk, h, h1, h2, h3, h4, h5⟩
    · rw [rl_leaf h, pcs_leaf h]; simp
    · rw [rl_slice h, pcs_slice h]; simp
    · cases hk
      have a := ih q.1 h1
      have b := ih q.2 h2
      rw [rl_join h, pcs_join h, List.length_cons, List.length_append, List.length_append]
      omega
def wl (T : sT) (c : Nat) : Nat := match T c with
  | some (.inl t) => 2 + t.length
  | _ => 0
theorem wl_leaf {T : sT} {c : Nat} {t : List Int32} (h : T c = some (.inl t)) : wl T c = 2 + t.length := by simp only [wl, h]
theorem rl_wl {T : sT} : ∀ (n c : Nat), wf T n c → ((rl T n c).map (wl T)).sum ≤ 8 * (tx T n c).length + 2 * (pcs T n c).length := by
  have hslice : ∀ c q, T c = some (.inr (.inr q)) → oks T q → ([c, q.1].map (wl T)).sum ≤ 8 * (((lfT T q.1).drop q.2.1).take q.2.2).length + 2 * 1 := fun c q h hq => by
    rw [oks_len hq]
    obtain ⟨t, q1, q2, q3, q4, q5⟩ := hq
    have e0 : wl T c = 0 := by simp only [wl, h]
    simp only [List.map_cons, List.map_nil, List.sum_cons, List.sum_nil, e0, wl_leaf q1]
    omega
  intro n
  induction n with
  | zero =>
    intro c hw
    rcases wf_cases hw with ⟨t, h, ht⟩ | ⟨q, h, hq⟩ | ⟨k, q, hk, -⟩
    · rw [rl_leaf h, pcs_leaf h, tx_leaf h]
      simp only [List.map_cons, List.map_nil, List.sum_cons, List.sum_nil, wl_leaf h, List.length_singleton]; omega
    · rw [rl_slice h, pcs_slice h, tx_slice h]; exact hslice c q h hq
    · cases hk
  | succ n ih =>
    intro c hw
    rcases wf_cases hw with ⟨t, h, ht⟩ | ⟨q, h, hq⟩ | ⟨k, q, hk, h, h1, h2, h3, h4, h5⟩
    · rw [rl_leaf h, pcs_leaf h, tx_leaf h]
      simp only [List.map_cons, List.map_nil, List.sum_cons, List.sum_nil, wl_leaf h, List.length_singleton]; omega
    · rw [rl_slice h, pcs_slice h, tx_slice h]; exact hslice c q h hq
    · cases hk
      have a := ih q.1 h1
      have b := ih q.2 h2
      have e0 : wl T c = 0 := by simp only [wl, h]
      rw [rl_join h, pcs_join h, tx_join h]
      simp only [List.map_cons, List.sum_cons, List.map_append, List.sum_append, List.length_append, e0]
      omega
theorem fm_sum (w : Nat → Nat) (f : Nat → List Nat) (b : Nat) : ∀ (L : List Nat), (∀ x ∈ L, ((f x).map w).sum ≤ b) → ((L.flatMap f).map w).sum ≤ L.length * b
  | [], _ => by simp
  | a :: L, h => by
    have h1 := h a List.mem_cons_self
    have h2 := fm_sum w f b L (fun x hx => h x (List.mem_cons_of_mem _ hx))
    rw [List.flatMap_cons, List.map_append, List.sum_append, List.length_cons, Nat.add_mul, Nat.one_mul]
    omega
/-- what slots, images and entries have, in the reference -/
def RO (ι : Nat → Nat) (μ : rf_M) (sl : List Nat) (im : Nat → Option (List Nat)) (en : List Nat) : Prop :=
  (sl.length = 8 ∧ AP (μ.2 9) (sl.map (fun p => nI (ι p)))) ∧ (∀ k, k < 2 → (im k = none ∧ μ.2 11 k = 0) ∨ (∃ l, im k = some l ∧ μ.2 11 k = 1 ∧ l.length = 8 ∧ ∀ (j x : Nat), l[j]? = some x → μ.2 10 (8 * k + j) = nI (ι x))) ∧ (en.length ≤ 24 ∧ μ.1 14 = nI en.length ∧ AP (μ.2 12) (en.map (fun p => nI (ι p))))
def rts (sl : List Nat) (im : Nat → Option (List Nat)) (en : List Nat) : List Nat := sl ++ ((im 0).getD [] ++ ((im 1).getD [] ++ en))
theorem RO_ch {ι : Nat → Nat} {μ μ' : rf_M} {sl : List Nat} {im : Nat → Option (List Nat)} {en : List Nat} {l : List Nat} (h : RO ι μ sl im en) (hc : CH l μ μ') (hl : ∀ k ∈ [9, 10, 11, 12, 14], k ∉ l) : RO ι μ' sl im en := by
  have g := fun k hk => hc k (hl k hk)
  obtain ⟨⟨a1, a2⟩, b, c1, c2, c3⟩ := h
  refine ⟨⟨a1, by rw [(g 9 (by decide)).2]; exact a2⟩, fun k hk => ?_, c1, by rw [(g 14 (by decide)).1]; exact c2, by rw [(g 12 (by decide)).2]; exact c3⟩
  rw [(g 11 (by decide)).2, (g 10 (by decide)).2]
  exact b k hk
/-- marks so far -/
def GI (T : sT) (ι : Nat → Nat) (μ : rf_M) (R V : List Nat) (μ1 : rf_M) : Prop := okV T V ∧ MKS ι μ1 V ∧ (∀ x ∈ V, ∀ y ∈ ch T x, y ∈ V) ∧ (∀ x ∈ V, ∃ r ∈ R, x ∈ rl T 13 r) ∧ CH [4, 22] μ μ1
/-- one more root is marked -/
theorem GI_mark {T : sT} {ι : Nat → Nat} {μ : rf_M} {R V : List Nat} {μ1 : rf_M} (hK : RK T ι μ) (hinj : ∀ a b, T a ≠ none → T b ≠ none → ι a = ι b → a = b) (hT : ∀ c, T c ≠ none → wf T 13 c) (h : GI T ι μ R V μ1) {c : Nat} (hcR : c ∈ R) (hc : T c ≠ none) : P_mark [.inr (some 39), .inl (nI (ι c))] μ1 0 0 (mI (fun r μ' => ∃ V', GI T ι μ R V' μ' ∧ c ∈ V' ∧ (∀ x ∈ V, x ∈ V') ∧ (∀ x, x ∈ V' ↔ x ∈ V ∨ x ∈ rl T 13 c) ∧ V.length ≤ V'.length ∧ r = nI (V'.length - V.length))) := by
  obtain ⟨h1, h2, h3, h4, h5⟩ := h
  have hm := k_mark (RK_ch hK h5 (by decide) (by decide) (by decide) (by decide)) hinj hT h2 h1 h3 (hT c hc)
  refine ⟨hm.1, hm.2.1, mm_ret (fun r s' hr => ?_) hm.2.2⟩
  obtain ⟨v, rfl, V', g1, g2, g3, g4, g5, g6, g7⟩ := hr
  refine ⟨v, rfl, V', ⟨g1, g2, g3, fun x hx => ?_, CH_tr h5 g7 (by decide) (by decide)⟩, (g4 c).mpr (Or.inr (rl_self 13 c)), fun x hx => (g4 x).mpr (Or.inl hx), g4, g6, g5⟩
  rcases (g4 x).mp hx with hx | hx
  · exact h4 x hx
  · exact ⟨c, hcR, hx⟩
