/-! ===== pure: what calls answer ===== -/
def ix {α : Type} (l : List α) (i : Int32) : Option α := if i < 0 then none else l[i.toNatClampNeg]?
theorem ix_cases {α : Type} (l : List α) (hl : l.length < 2 ^ 31) (i : Int32) : (ix l i = none ∧ (i < 0 ∨ nI l.length ≤ i)) ∨ ∃ j x, i = nI j ∧ j < l.length ∧ l[j]? = some x ∧ ix l i = some x := by
  by_cases h : i < 0
  · exact Or.inl ⟨by simp only [ix, if_pos h], Or.inl h⟩
  · obtain ⟨j, hj, rfl⟩ := nI_of h
    by_cases hjl : j < l.length
    · exact Or.inr ⟨j, _, rfl, hjl, List.getElem?_eq_getElem hjl, by simp only [ix, if_neg h, nI_clamp hj]; exact List.getElem?_eq_getElem hjl⟩
    · exact Or.inl ⟨by simp only [ix, if_neg h, nI_clamp hj]; exact List.getElem?_eq_none (by omega), Or.inr ((nI_leI (by omega) hj).mpr (by omega))⟩
theorem ix_nI {α : Type} {l : List α} {j : Nat} (hj : j < 2 ^ 31) : ix l (nI j) = l[j]? := by
  simp only [ix, if_neg (nI_pos hj), nI_clamp hj]
theorem ix_8 {α : Type} {l : List α} (hl : l.length = 8) (i : Int32) : (ix l i = none ∧ ¬ (nI 0 ≤ i ∧ i ≤ nI 7)) ∨ ∃ j x, i = nI j ∧ j < 8 ∧ l[j]? = some x ∧ ix l i = some x ∧ (nI 0 ≤ i ∧ i ≤ nI 7) := by
  rcases ix_cases l (by omega) i with ⟨h1, h2⟩ | ⟨j, x, h1, h2, h3, h4⟩
  · refine Or.inl ⟨h1, fun ⟨g1, g2⟩ => ?_⟩
    rcases h2 with h2 | h2
    · rw [nI_0] at g1
      have a := Int32.lt_iff_toInt_lt.mp h2
      have b := Int32.le_iff_toInt_le.mp g1
      omega
    · rw [hl] at h2
      have a := Int32.le_iff_toInt_le.mp h2
      have b := Int32.le_iff_toInt_le.mp g2
      rw [nI_toInt (by omega)] at a b
      omega
  · refine Or.inr ⟨j, x, h1, by omega, h3, h4, ?_⟩
    rw [h1]
    exact ⟨(nI_leI (by omega) (by omega)).mpr (by omega), (nI_leI (by omega) (by omega)).mpr (by omega)⟩
/-- each once -/
def dd : List Nat → List Nat
  | [] => []
  | a :: l => if a ∈ dd l then dd l else a :: dd l
theorem dd_mem : ∀ (l : List Nat) (x : Nat), x ∈ dd l ↔ x ∈ l
  | [], x => Iff.rfl
  | a :: l, x => by
    have ih := dd_mem l
    simp only [dd]
    split
    · rename_i h
      rw [ih, List.mem_cons]
      constructor
      · exact Or.inr
      · rintro (rfl | h2)
        · exact (ih _).mp h
        · exact h2
    · rw [List.mem_cons, List.mem_cons, ih]
theorem dd_nodup : ∀ (l : List Nat), (dd l).Nodup
  | [] => List.nodup_nil
  | a :: l => by
    simp only [dd]
    split
    · exact dd_nodup l
    · rename_i h
      exact List.nodup_cons.mpr ⟨h, dd_nodup l⟩
theorem nd_sum (w : Nat → Nat) {A B : List Nat} (ha : A.Nodup) (hb : B.Nodup) (h : ∀ x, x ∈ A ↔ x ∈ B) : (A.map w).sum = (B.map w).sum :=
  Nat.le_antisymm (ns_sum w A B ha (fun x hx => (h x).mp hx)) (ns_sum w B A hb (fun x hx => (h x).mpr hx))
theorem nd_len {A B : List Nat} (ha : A.Nodup) (hb : B.Nodup) (h : ∀ x, x ∈ A ↔ x ∈ B) : A.length = B.length := by
  have := nd_sum (fun _ => 1) ha hb h
  rwa [sum_one, sum_one] at this
def wd (t : List Int32) : Bool := t.any (fun x => decide (nI 255 < x))
def rm (T : sT) (x : Nat) : Nat := match T x with
  | some (.inl t) => 24 + (if wd t then 2 else 1) * t.length
  | some (.inr (.inl _)) => 24
  | some (.inr (.inr _)) => 28
  | none => 0
def kd (T : sT) (x : Nat) : Nat := match T x with
  | some (.inr (.inl _)) => 1
  | some (.inr (.inr _)) => 2
  | _ => 0
def hsh (t : List Int32) : Int32 := t.foldl (fun h x => nI 31 * h + x) 0
/-- how many signs two texts begin alike with -/
def lcp : List Int32 → List Int32 → Nat
  | a :: t, b :: u => if a = b then lcp t u + 1 else 0
  | _, _ => 0
theorem lcp_le : ∀ (t u : List Int32), lcp t u ≤ t.length ∧ lcp t u ≤ u.length
  | [], _ => by simp [lcp]
  | _ :: _, [] => by simp [lcp]
  | a :: t, b :: u => by
    have := lcp_le t u
    simp only [lcp, List.length_cons]
    split <;> omega
/-- it is the place up to which all are alike, and no further -/
theorem lcp_u : ∀ (n : Nat) (t u : List Int32), (∀ j, j < n → ∃ x, t[j]? = some x ∧ u[j]? = some x) → (t.length ≤ n ∨ u.length ≤ n ∨ ∃ x y, t[n]? = some x ∧ u[n]? = some y ∧ x ≠ y) → lcp t u = n
  | 0, [], _, _, _ => by simp [lcp]
  | 0, _ :: _, [], _, _ => by simp [lcp]
  | 0, a :: t, b :: u, _, h => by
    rcases h with h | h | ⟨x, y, h1, h2, h3⟩
    · simp at h
    · simp at h
    · cases h1; cases h2
      simp only [lcp, if_neg h3]
  | n + 1, t, u, h, g => by
    obtain ⟨x, h1, h2⟩ := h 0 (by omega)
    cases t with
    | nil => simp at h1
    | cons a t =>
      cases u with
      | nil => simp at h2
      | cons b u =>
        cases h1; cases h2
        have ih := lcp_u n t u (fun j hj => by simpa using h (j + 1) (by omega)) (by simpa using g)
        simp only [lcp, if_pos, ih]
theorem lcp_at : ∀ (t u : List Int32) (j : Nat), j < lcp t u → ∃ x, t[j]? = some x ∧ u[j]? = some x
  | [], _, j, h => by simp [lcp] at h
  | _ :: _, [], j, h => by simp [lcp] at h
  | a :: t, b :: u, j, h => by
    simp only [lcp] at h
    split at h
    · rename_i e
      subst e
      cases j with
      | zero => exact ⟨a, rfl, rfl⟩
      | succ j => simpa using lcp_at t u j (by omega)
    · omega
theorem lcp_eq {t u : List Int32} : (t = u ↔ t.length = u.length ∧ lcp t u = t.length) := by
  constructor
  · rintro rfl
    refine ⟨rfl, lcp_u _ t t (fun j hj => ⟨_, List.getElem?_eq_getElem hj, List.getElem?_eq_getElem hj⟩) (Or.inl (Nat.le_refl _))⟩
  · rintro ⟨h1, h2⟩
    refine List.ext_getElem? (fun j => ?_)
    by_cases hj : j < t.length
    · obtain ⟨x, g1, g2⟩ := lcp_at t u j (by omega)
      rw [g1, g2]
    · rw [List.getElem?_eq_none (by omega), List.getElem?_eq_none (by omega)]
/-- a text lies in another at a place -/
def hasP (t u : List Int32) (f : Nat) : Prop := f + u.length ≤ t.length ∧ ∀ j x, u[j]? = some x → t[f + j]? = some x
def isPlc (t u : List Int32) (r : Int32) : Prop := (∃ f, r = nI f ∧ hasP t u f ∧ ∀ g, g < f → ¬ hasP t u g) ∨ (r = Int32.ofInt (-6) ∧ ∀ f, ¬ hasP t u f)
theorem isPlc_u {t u : List Int32} {r r' : Int32} (h : isPlc t u r) (h' : isPlc t u r') : r = r' := by
  rcases h with ⟨f, h1, h2, h3⟩ | ⟨h1, h2⟩
  · rcases h' with ⟨g, g1, g2, g3⟩ | ⟨g1, g2⟩
    · rcases Nat.lt_trichotomy f g with hl | hl | hl
      · exact absurd h2 (g3 f hl)
      · rw [h1, g1, hl]
      · exact absurd g2 (h3 g hl)
    · exact absurd h2 (g2 f)
  · rcases h' with ⟨g, g1, g2, g3⟩ | ⟨g1, g2⟩
    · exact absurd g2 (h2 g)
    · rw [h1, g1]
def cfs (t u : List Int32) : Prop := t.getD (lcp t u) 0 < u.getD (lcp t u) 0
/-- the first place of one in a row -/
def fi : List Nat → Nat → Nat
  | [], _ => 0
  | a :: l, p => if a = p then 0 else fi l p + 1
theorem fi_u : ∀ (l : List Nat) (p n : Nat), l[n]? = some p → (∀ j x, j < n → l[j]? = some x → x ≠ p) → fi l p = n
  | [], p, n, h, _ => by simp at h
  | a :: l, p, 0, h, _ => by cases h; simp [fi]
  | a :: l, p, n + 1, h, g => by
    have h1 : a ≠ p := g 0 a (by omega) rfl
    have ih := fi_u l p n (by simpa using h) (fun j x hj hx => g (j + 1) x (by omega) (by simpa using hx))
    simp only [fi, if_neg h1, ih]
/-- the first entry with a text -/
def fe (T : sT) (t : List Int32) : List Nat → Option Nat
  | [] => none
  | a :: l => if tx T 13 a = t then some 0 else (fe T t l).map (· + 1)
theorem fe_some {T : sT} {t : List Int32} : ∀ (l : List Nat) (n a : Nat), l[n]? = some a → tx T 13 a = t → (∀ j x, j < n → l[j]? = some x → tx T 13 x ≠ t) → fe T t l = some n
  | [], n, a, h, _, _ => by simp at h
  | b :: l, 0, a, h, h1, _ => by cases h; simp only [fe, if_pos h1]
  | b :: l, n + 1, a, h, h1, g => by
    have h0 := g 0 b (by omega) rfl
    have ih := fe_some l n a (by simpa using h) h1 (fun j x hj hx => g (j + 1) x (by omega) (by simpa using hx))
    simp only [fe, if_neg h0, ih, Option.map_some]
theorem fe_none {T : sT} {t : List Int32} : ∀ (l : List Nat), (∀ x ∈ l, tx T 13 x ≠ t) → fe T t l = none
  | [], _ => rfl
  | b :: l, g => by
    have h0 := g b List.mem_cons_self
    have ih := fe_none l (fun x hx => g x (List.mem_cons_of_mem _ hx))
    simp only [fe, if_neg h0, ih, Option.map_none]
def cnt (l : List Nat) (c : Nat) : Nat := (l.filter (fun x => x = c)).length
