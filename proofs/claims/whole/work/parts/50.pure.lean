/-! ===== pure: rows of an array, numbers ===== -/
/-- the array begins with these -/
def AP {α : Type} (f : Nat → α) (l : List α) : Prop := ∀ (j : Nat) (x : α), l[j]? = some x → f j = x
theorem AP_nil {α : Type} (f : Nat → α) : AP f [] := fun j x h => by simp at h
theorem AP_at {α : Type} {f : Nat → α} {l : List α} (h : AP f l) {j : Nat} (hj : j < l.length) : f j = l[j] := h j _ (List.getElem?_eq_getElem hj)
theorem AP_pre {α : Type} {f : Nat → α} {l l' : List α} (h : AP f (l ++ l')) : AP f l := fun j x hj => h j x (by
  rw [List.getElem?_append_left (List.getElem?_eq_some_iff.mp hj).1]; exact hj)
theorem AP_last {α : Type} {f : Nat → α} {l : List α} {x : α} (h : AP f (l ++ [x])) : f l.length = x := h l.length x (by simp)
theorem AP_push {f : Nat → Int32} {l : List Int32} (h : AP f l) (v : Int32) : AP (upd f l.length v) (l ++ [v]) := by
  intro j x hj
  by_cases hl : j < l.length
  · rw [List.getElem?_append_left hl] at hj
    rw [pk_un (by omega)]
    exact h j x hj
  · rw [List.getElem?_append_right (by omega)] at hj
    have hz : j - l.length < 1 := (List.getElem?_eq_some_iff.mp hj).1
    have : j = l.length := by omega
    subst this
    rw [Nat.sub_self] at hj
    cases hj
    exact pk_us
theorem AP_keep {f : Nat → Int32} {l : List Int32} (h : AP f l) {k : Nat} (hk : l.length ≤ k) (v : Int32) : AP (upd f k v) l := by
  intro j x hj
  have := (List.getElem?_eq_some_iff.mp hj).1
  rw [pk_un (by omega)]
  exact h j x hj
theorem AP_congr {α : Type} {f g : Nat → α} {l : List α} (h : AP f l) (hg : ∀ j, j < l.length → g j = f j) : AP g l := fun j x hj => by
  rw [hg j (List.getElem?_eq_some_iff.mp hj).1]; exact h j x hj
theorem AP_app {α : Type} {f : Nat → α} {l l' : List α} (h : AP f l) (h' : ∀ j x, l'[j]? = some x → f (l.length + j) = x) : AP f (l ++ l') := by
  intro j x hj
  by_cases hl : j < l.length
  · rw [List.getElem?_append_left hl] at hj; exact h j x hj
  · rw [List.getElem?_append_right (by omega)] at hj
    have := h' _ x hj
    rwa [show l.length + (j - l.length) = j by omega] at this
theorem vp_in_i {n N : Nat} (h : n < 2 ^ 31) : vp_in (nI n) N ↔ n < N := by
  rw [vp_in_iff, nI_toInt h]
  omega
theorem nI_z {n : Nat} (h : n < 2 ^ 31) : (nI n = 0) ↔ n = 0 := by
  rw [← nI_0]; exact nI_eq h (by omega)
theorem nI_zle (n : Nat) (h : n < 2 ^ 31) : (nI n ≤ 0) ↔ n = 0 := by
  rw [← nI_0, nI_leI h (by omega)]; omega
theorem nI_zlt (n : Nat) (h : n < 2 ^ 31) : (0 < nI n) ↔ 0 < n := by
  rw [← nI_0, nI_ltI (by omega) h]
theorem nI_gez (n : Nat) (h : n < 2 ^ 31) : (0 ≤ nI n) ↔ True := by
  simp only [iff_true]; exact nI_pos' h
theorem nI_ltz (n : Nat) (h : n < 2 ^ 31) : (nI n < 0) ↔ False := by
  simp only [iff_false]; exact nI_pos h
/-! ===== cells, as a store: a leaf's text, a join's two, a slice's base, from, many ===== -/
abbrev cV : Type := List Int32 ⊕ (Nat × Nat) ⊕ (Nat × Nat × Nat)
abbrev sT : Type := Nat → Option cV
def lfT (T : sT) (b : Nat) : List Int32 := match T b with
  | some (.inl t) => t
  | _ => []
def tx (T : sT) : Nat → Nat → List Int32
  | 0, c => (match T c with
    | some (.inl t) => t
    | some (.inr (.inr q)) => ((lfT T q.1).drop q.2.1).take q.2.2
    | _ => [])
  | n + 1, c => (match T c with
    | some (.inl t) => t
    | some (.inr (.inl q)) => tx T n q.1 ++ tx T n q.2
    | some (.inr (.inr q)) => ((lfT T q.1).drop q.2.1).take q.2.2
    | none => [])
def pcs (T : sT) : Nat → Nat → List Nat
  | 0, c => [c]
  | n + 1, c => (match T c with
    | some (.inr (.inl q)) => pcs T n q.1 ++ pcs T n q.2
    | _ => [c])
def dep (T : sT) : Nat → Nat → Nat
  | 0, _ => 0
  | n + 1, c => (match T c with
    | some (.inr (.inl q)) => 1 + max (dep T n q.1) (dep T n q.2)
    | _ => 0)
def rl (T : sT) : Nat → Nat → List Nat
  | 0, c => (match T c with
    | some (.inr (.inr q)) => [c, q.1]
    | _ => [c])
  | n + 1, c => (match T c with
    | some (.inr (.inl q)) => c :: (rl T n q.1 ++ rl T n q.2)
    | some (.inr (.inr q)) => [c, q.1]
    | _ => [c])
/-- a text: at most 120 signs, all above 0 -/
def okt (t : List Int32) : Prop := t.length ≤ 120 ∧ ∀ x ∈ t, (0 : Int32) < x
def oks (T : sT) (q : Nat × Nat × Nat) : Prop := ∃ t, T q.1 = some (.inl t) ∧ okt t ∧ q.2.1 + q.2.2 ≤ t.length ∧ 0 < q.2.2 ∧ t.length ≤ 8 * q.2.2
def wf (T : sT) : Nat → Nat → Prop
  | 0, c => (match T c with
    | some (.inl t) => okt t
    | some (.inr (.inr q)) => oks T q
    | _ => False)
  | n + 1, c => (match T c with
    | some (.inl t) => okt t
    | some (.inr (.inl q)) => wf T n q.1 ∧ wf T n q.2 ∧ tx T n q.1 ≠ [] ∧ tx T n q.2 ≠ [] ∧ (tx T n q.1).length + (tx T n q.2).length ≤ 120
    | some (.inr (.inr q)) => oks T q
    | none => False)
section ST
variable {T : sT} {c : Nat}
theorem tx_leaf {n : Nat} {t : List Int32} (h : T c = some (.inl t)) : tx T n c = t := by cases n <;> simp only [tx, h]
theorem tx_slice {n : Nat} {q : Nat × Nat × Nat} (h : T c = some (.inr (.inr q))) : tx T n c = ((lfT T q.1).drop q.2.1).take q.2.2 := by cases n <;> simp only [tx, h]
theorem tx_join {n : Nat} {q : Nat × Nat} (h : T c = some (.inr (.inl q))) : tx T (n + 1) c = tx T n q.1 ++ tx T n q.2 := by simp only [tx, h]
theorem pcs_leaf {n : Nat} {t : List Int32} (h : T c = some (.inl t)) : pcs T n c = [c] := by cases n <;> simp only [pcs, h]
theorem pcs_slice {n : Nat} {q : Nat × Nat × Nat} (h : T c = some (.inr (.inr q))) : pcs T n c = [c] := by cases n <;> simp only [pcs, h]
theorem pcs_join {n : Nat} {q : Nat × Nat} (h : T c = some (.inr (.inl q))) : pcs T (n + 1) c = pcs T n q.1 ++ pcs T n q.2 := by simp only [pcs, h]
theorem dep_leaf {n : Nat} {t : List Int32} (h : T c = some (.inl t)) : dep T n c = 0 := by cases n <;> simp only [dep, h]
theorem dep_slice {n : Nat} {q : Nat × Nat × Nat} (h : T c = some (.inr (.inr q))) : dep T n c = 0 := by cases n <;> simp only [dep, h]
theorem dep_join {n : Nat} {q : Nat × Nat} (h : T c = some (.inr (.inl q))) : dep T (n + 1) c = 1 + max (dep T n q.1) (dep T n q.2) := by simp only [dep, h]
theorem rl_leaf {n : Nat} {t : List Int32} (h : T c = some (.inl t)) : rl T n c = [c] := by cases n <;> simp only [rl, h]
theorem rl_slice {n : Nat} {q : Nat × Nat × Nat} (h : T c = some (.inr (.inr q))) : rl T n c = [c, q.1] := by cases n <;> simp only [rl, h]
theorem rl_join {n : Nat} {q : Nat × Nat} (h : T c = some (.inr (.inl q))) : rl T (n + 1) c = c :: (rl T n q.1 ++ rl T n q.2) := by simp only [rl, h]
theorem wf_leaf {n : Nat} {t : List Int32} (h : T c = some (.inl t)) : wf T n c ↔ okt t := by cases n <;> simp only [wf, h]
theorem wf_slice {n : Nat} {q : Nat × Nat × Nat} (h : T c = some (.inr (.inr q))) : wf T n c ↔ oks T q := by cases n <;> simp only [wf, h]
theorem wf_join {n : Nat} {q : Nat × Nat} (h : T c = some (.inr (.inl q))) : wf T (n + 1) c ↔ (wf T n q.1 ∧ wf T n q.2 ∧ tx T n q.1 ≠ [] ∧ tx T n q.2 ≠ [] ∧ (tx T n q.1).length + (tx T n q.2).length ≤ 120) := by simp only [wf, h]
theorem wf_join0 {q : Nat × Nat} (h : T c = some (.inr (.inl q))) : ¬ wf T 0 c := by simp only [wf, h, not_false_eq_true]
/-- the three kinds of a cell that is well made -/
theorem wf_cases {n : Nat} (h : wf T n c) : (∃ t, T c = some (.inl t) ∧ okt t) ∨ (∃ q, T c = some (.inr (.inr q)) ∧ oks T q) ∨ (∃ k q, n = k + 1 ∧ T c = some (.inr (.inl q)) ∧ wf T k q.1 ∧ wf T k q.2 ∧ tx T k q.1 ≠ [] ∧ tx T k q.2 ≠ [] ∧ (tx T k q.1).length + (tx T k q.2).length ≤ 120) := by
  cases hc : T c with
  | none => cases n <;> simp [wf, hc] at h
  | some v =>
    rcases v with t | q | q
    · exact Or.inl ⟨t, rfl, (wf_leaf hc).mp h⟩
    · cases n with
      | zero => exact absurd h (wf_join0 hc)
      | succ k => exact Or.inr (Or.inr ⟨k, q, rfl, rfl, (wf_join hc).mp h⟩)
    · exact Or.inr (Or.inl ⟨q, rfl, (wf_slice hc).mp h⟩)
end ST
/-- one level more changes nothing -/
theorem wf_up {T : sT} : ∀ (n c : Nat), wf T n c → wf T (n + 1) c ∧ tx T (n + 1) c = tx T n c ∧ pcs T (n + 1) c = pcs T n c ∧ dep T (n + 1) c = dep T n c ∧ rl T (n + 1) c = rl T n c := by
  intro n
  induction n with
  | zero =>
    intro c h
    rcases wf_cases h with ⟨t, hc, ht⟩ | ⟨q, hc, hq⟩ | ⟨k, q, hk, -⟩
    · exact ⟨(wf_leaf hc).mpr ht, by rw [tx_leaf hc, tx_leaf hc], by rw [pcs_leaf hc, pcs_leaf hc], by rw [dep_leaf hc, dep_leaf hc], by rw [rl_leaf hc, rl_leaf hc]⟩
    · exact ⟨(wf_slice hc).mpr hq, by rw [tx_slice hc, tx_slice hc], by rw [pcs_slice hc, pcs_slice hc], by rw [dep_slice hc, dep_slice hc], by rw [rl_slice hc, rl_slice hc]⟩
    · cases hk
  | succ n ih =>
    intro c h
    rcases wf_cases h with ⟨t, hc, ht⟩ | ⟨q, hc, hq⟩ | ⟨k, q, hk, hc, h1, h2, h3, h4, h5⟩
    · exact ⟨(wf_leaf hc).mpr ht, by rw [tx_leaf hc, tx_leaf hc], by rw [pcs_leaf hc, pcs_leaf hc], by rw [dep_leaf hc, dep_leaf hc], by rw [rl_leaf hc, rl_leaf hc]⟩
    · exact ⟨(wf_slice hc).mpr hq, by rw [tx_slice hc, tx_slice hc], by rw [pcs_slice hc, pcs_slice hc], by rw [dep_slice hc, dep_slice hc], by rw [rl_slice hc, rl_slice hc]⟩
    · cases hk
      obtain ⟨a1, a2, a3, a4, a5⟩ := ih q.1 h1
      obtain ⟨b1, b2, b3, b4, b5⟩ := ih q.2 h2
      refine ⟨(wf_join hc).mpr ⟨a1, b1, by rw [a2]; exact h3, by rw [b2]; exact h4, by rw [a2, b2]; exact h5⟩, ?_, ?_, ?_, ?_⟩
      · rw [tx_join hc, tx_join hc, a2, b2]
      · rw [pcs_join hc, pcs_join hc, a3, b3]
      · rw [dep_join hc, dep_join hc, a4, b4]
      · rw [rl_join hc, rl_join hc, a5, b5]
theorem wf_le {T : sT} {n m c : Nat} (hnm : n ≤ m) (h : wf T n c) : wf T m c ∧ tx T m c = tx T n c ∧ pcs T m c = pcs T n c ∧ dep T m c = dep T n c ∧ rl T m c = rl T n c := by
  induction hnm with
  | refl => exact ⟨h, rfl, rfl, rfl, rfl⟩
  | step _ ih =>
    obtain ⟨a1, a2, a3, a4, a5⟩ := ih
    obtain ⟨b1, b2, b3, b4, b5⟩ := wf_up _ c a1
    exact ⟨b1, b2.trans a2, b3.trans a3, b4.trans a4, b5.trans a5⟩
/-- a slice's text: as many signs as it says -/
theorem oks_len {T : sT} {q : Nat × Nat × Nat} (h : oks T q) : (((lfT T q.1).drop q.2.1).take q.2.2).length = q.2.2 := by
  obtain ⟨t, h1, h2, h3, h4, h5⟩ := h
  simp only [lfT, h1, List.length_take, List.length_drop]
  omega
theorem oks_okt {T : sT} {q : Nat × Nat × Nat} (h : oks T q) : okt (((lfT T q.1).drop q.2.1).take q.2.2) := by
  refine ⟨by rw [oks_len h]; obtain ⟨t, h1, h2, h3, h4, h5⟩ := h; have := h2.1; omega, fun x hx => ?_⟩
  obtain ⟨t, h1, h2, -⟩ := h
  simp only [lfT, h1] at hx
  exact h2.2 x (List.mem_of_mem_drop (List.mem_of_mem_take hx))
theorem wf_okt {T : sT} : ∀ (n c : Nat), wf T n c → okt (tx T n c) := by
  intro n
  induction n with
  | zero =>
    intro c h
    rcases wf_cases h with ⟨t, hc, ht⟩ | ⟨q, hc, hq⟩ | ⟨k, q, hk, -⟩
    · rw [tx_leaf hc]; exact ht
    · rw [tx_slice hc]; exact oks_okt hq
    · cases hk
  | succ n ih =>
    intro c h
    rcases wf_cases h with ⟨t, hc, ht⟩ | ⟨q, hc, hq⟩ | ⟨k, q, hk, hc, h1, h2, h3, h4, h5⟩
    · rw [tx_leaf hc]; exact ht
    · rw [tx_slice hc]; exact oks_okt hq
    · cases hk
      rw [tx_join hc]
      refine ⟨by rw [List.length_append]; exact h5, fun x hx => ?_⟩
      rcases List.mem_append.mp hx with h | h
      · exact (ih _ h1).2 x h
      · exact (ih _ h2).2 x h
theorem wf_dep {T : sT} : ∀ (n c : Nat), dep T n c ≤ n := by
  intro n
  induction n with
  | zero => intro c; simp [dep]
  | succ n ih =>
    intro c
    simp only [dep]
    split
    · rename_i q _
      have := ih q.1
      have := ih q.2
      omega
    · omega
/-- pieces: at least one; each is a leaf or a slice; no more than signs, if there are signs -/
theorem pcs_pos {T : sT} : ∀ (n c : Nat), 0 < (pcs T n c).length := by
  intro n
  induction n with
  | zero => intro c; simp [pcs]
  | succ n ih =>
    intro c
    simp only [pcs]
    split
    · rename_i q _
      rw [List.length_append]
      have := ih q.1
      omega
    · simp
theorem pcs_le {T : sT} : ∀ (n c : Nat), wf T n c → tx T n c ≠ [] → (pcs T n c).length ≤ (tx T n c).length := by
  intro n
  induction n with
  | zero =>
    intro c h hn
    have : 0 < (tx T 0 c).length := List.length_pos_iff.mpr hn
    simp only [pcs, List.length_singleton]
    omega
  | succ n ih =>
    intro c h hn
    have h0 : 0 < (tx T (n + 1) c).length := List.length_pos_iff.mpr hn
    rcases wf_cases h with ⟨t, hc, ht⟩ | ⟨q, hc, hq⟩ | ⟨k, q, hk, hc, h1, h2, h3, h4, h5⟩
    · rw [pcs_leaf hc]; exact h0
    · rw [pcs_slice hc]; exact h0
    · cases hk
      rw [pcs_join hc, tx_join hc, List.length_append, List.length_append]
      have := ih _ h1 h3
      have := ih _ h2 h4
      omega
theorem pcs_120 {T : sT} {n c : Nat} (h : wf T n c) : (pcs T n c).length ≤ 120 := by
  by_cases hn : tx T n c = []
  · rcases wf_cases h with ⟨t, hc, ht⟩ | ⟨q, hc, hq⟩ | ⟨k, q, hk, hc, h1, h2, h3, h4, h5⟩
    · rw [pcs_leaf hc]; simp
    · rw [pcs_slice hc]; simp
    · subst hk
      rw [tx_join hc] at hn
      exact absurd (List.append_eq_nil_iff.mp hn).1 h3
  · exact Nat.le_trans (pcs_le n c h hn) (wf_okt n c h).1
theorem pcs_2 {T : sT} : ∀ (n c : Nat), (pcs T n c).length ≤ 2 ^ n := by
  intro n
  induction n with
  | zero => intro c; simp [pcs]
  | succ n ih =>
    intro c
    simp only [pcs]
    split
    · rename_i q _
      rw [List.length_append, Nat.pow_succ]
      have := ih q.1
      have := ih q.2
      omega
    · simp [Nat.one_le_two_pow]
/-- a piece is a leaf or a slice, well made -/
def isPc (T : sT) (c : Nat) : Prop := (∃ t, T c = some (.inl t) ∧ okt t) ∨ (∃ q, T c = some (.inr (.inr q)) ∧ oks T q)
theorem pcs_isPc {T : sT} : ∀ (n c : Nat), wf T n c → ∀ x ∈ pcs T n c, isPc T x := by
  intro n
  induction n with
  | zero =>
    intro c h x hx
    rcases wf_cases h with ⟨t, hc, ht⟩ | ⟨q, hc, hq⟩ | ⟨k, q, hk, -⟩
    · rw [pcs_leaf hc] at hx; cases List.mem_singleton.mp hx; exact Or.inl ⟨t, hc, ht⟩
    · rw [pcs_slice hc] at hx; cases List.mem_singleton.mp hx; exact Or.inr ⟨q, hc, hq⟩
    · cases hk
  | succ n ih =>
    intro c h x hx
    rcases wf_cases h with ⟨t, hc, ht⟩ | ⟨q, hc, hq⟩ | ⟨k, q, hk, hc, h1, h2, h3, h4, h5⟩
    · rw [pcs_leaf hc] at hx; cases List.mem_singleton.mp hx; exact Or.inl ⟨t, hc, ht⟩
    · rw [pcs_slice hc] at hx; cases List.mem_singleton.mp hx; exact Or.inr ⟨q, hc, hq⟩
    · cases hk
      rw [pcs_join hc] at hx
      rcases List.mem_append.mp hx with h | h
      · exact ih _ h1 x h
      · exact ih _ h2 x h
theorem isPc_wf {T : sT} {n c : Nat} (h : isPc T c) : wf T n c := by
  rcases h with ⟨t, hc, ht⟩ | ⟨q, hc, hq⟩
  · exact (wf_leaf hc).mpr ht
  · exact (wf_slice hc).mpr hq
/-- a text is that of its pieces, one behind the other -/
theorem tx_pcs {T : sT} : ∀ (n c : Nat), wf T n c → tx T n c = (pcs T n c).flatMap (tx T 0) := by
  intro n
  induction n with
  | zero => intro c h; simp [pcs]
  | succ n ih =>
    intro c h
    rcases wf_cases h with ⟨t, hc, ht⟩ | ⟨q, hc, hq⟩ | ⟨k, q, hk, hc, h1, h2, h3, h4, h5⟩
    · rw [pcs_leaf hc, tx_leaf hc]; simp [tx_leaf hc]
    · rw [pcs_slice hc, tx_slice hc]; simp [tx_slice hc]
    · cases hk
      rw [pcs_join hc, tx_join hc, List.flatMap_append, ← ih _ h1, ← ih _ h2]
