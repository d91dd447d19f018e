/-! ===== the class: its picture, its world, its instructions ===== -/
abbrev xO : Type := Nat × (Nat → Int32) × (Nat → Option Nat)
abbrev xS : Type := (Nat → Option xO) × (Nat → Option (Nat × (Nat → Int32))) × (Nat → Option (Nat × (Nat → Option Nat)))
def x_rho (ad : Nat → Nat) (k : Nat) : Nat := if k < 24 then ad k else k - 24
def x_fs (ad : Nat → Nat) (o : xO) : List Value := match o.1 with
  | 0 => [.int (o.2.1 0), .int (o.2.1 1), mE (x_rho ad) (.inr (o.2.2 2)), mE (x_rho ad) (.inr (o.2.2 3)), mE (x_rho ad) (.inr (o.2.2 4)), mE (x_rho ad) (.inr (o.2.2 5)), .int (o.2.1 6), .int (o.2.1 7), .int (o.2.1 8)]
  | 1 => [mE (x_rho ad) (.inr (o.2.2 0)), .int (o.2.1 1)]
  | 2 => [mE (x_rho ad) (.inr (o.2.2 0)), mE (x_rho ad) (.inr (o.2.2 1)), .int (o.2.1 2), .int (o.2.1 3)]
  | 3 => [mE (x_rho ad) (.inr (o.2.2 0)), .int (o.2.1 1)]
  | 4 => [.int (o.2.1 0), .int (o.2.1 1), .int (o.2.1 2)]
  | 5 => [mE (x_rho ad) (.inr (o.2.2 0)), mE (x_rho ad) (.inr (o.2.2 1)), mE (x_rho ad) (.inr (o.2.2 2)), .int (o.2.1 3), mE (x_rho ad) (.inr (o.2.2 4))]
  | 6 => [mE (x_rho ad) (.inr (o.2.2 0)), mE (x_rho ad) (.inr (o.2.2 1)), mE (x_rho ad) (.inr (o.2.2 2)), .int (o.2.1 3), mE (x_rho ad) (.inr (o.2.2 4)), mE (x_rho ad) (.inr (o.2.2 5)), mE (x_rho ad) (.inr (o.2.2 6)), mE (x_rho ad) (.inr (o.2.2 7)), mE (x_rho ad) (.inr (o.2.2 8)), mE (x_rho ad) (.inr (o.2.2 9)), mE (x_rho ad) (.inr (o.2.2 10))]
  | _ => []
def x_e0 (cs ad : Nat → Nat) (σ : xS) (k : Nat) : Option va_E := match σ.1 k with
  | some o => some (.inr (o.1, x_fs ad o))
  | none => (match σ.2.1 k with
    | some t => some (.inl (cs 0, t.1, .inl t.2))
    | none => (match σ.2.2 k with
      | some t => some (.inl (cs 2, t.1, .inr (.inr (.inr (.inr (fun j => (t.2 j).map (x_rho ad)))))))
      | none => none))
def x_e (cs ad : Nat → Nat) (σ : xS) (k : Nat) : Option va_E := if k = 22 ∨ k = 23 then none else x_e0 cs ad σ k
theorem x_e_n {cs ad : Nat → Nat} {σ : xS} {k : Nat} (hk : k ≠ 22 ∧ k ≠ 23) : x_e cs ad σ k = x_e0 cs ad σ k := if_neg (fun h => h.elim hk.1 hk.2)
/-- the two static rows: what they hold is known, and nobody writes there -/
def x_R (σ : xS) : Prop := (σ.1 22 = none ∧ σ.1 23 = none ∧ σ.2.2 22 = none ∧ σ.2.2 23 = none) ∧ (∀ t, σ.2.1 22 = some t → t.1 = 3 ∧ ∀ j, j < 3 → t.2 j = rwL j) ∧ ∀ t, σ.2.1 23 = some t → t.1 = 3 ∧ ∀ j, j < 3 → t.2 j = rwG j
def x_X0 (σ : xS) : Prop := ∀ k, (σ.1 k ≠ none → σ.2.1 k = none ∧ σ.2.2 k = none) ∧ (σ.2.1 k ≠ none → σ.2.2 k = none)
def x_X (σ : xS) : Prop := x_X0 σ ∧ x_R σ
theorem x_n0 {σ : xS} {k : Nat} {o : xO} (hX : x_X σ) (h : σ.1 k = some o) : k ≠ 22 ∧ k ≠ 23 := ⟨fun z => (by rw [z, hX.2.1.1] at h; cases h), fun z => (by rw [z, hX.2.1.2.1] at h; cases h)⟩
theorem x_nR {σ : xS} {k : Nat} {t : Nat × (Nat → Option Nat)} (hX : x_X σ) (h : σ.2.2 k = some t) : k ≠ 22 ∧ k ≠ 23 := ⟨fun z => (by rw [z, hX.2.1.2.2.1] at h; cases h), fun z => (by rw [z, hX.2.1.2.2.2] at h; cases h)⟩
theorem x_h24 (n : Nat) : n + 24 ≠ 22 ∧ n + 24 ≠ 23 := ⟨by omega, by omega⟩
def x_W (D : va_G) (cs ad : Nat → Nat) (A : Nat → Prop) (σ : xS) (H : Heap) : Prop :=
  (∀ k e, x_e cs ad σ k = some e → va_at D classes (x_rho ad k, e) H ∧ (A (x_rho ad k) ∨ (σ.1 k = none ∧ (k = 22 ∨ k = 23)))) ∧
  (∀ j k, x_e cs ad σ j ≠ none → x_e cs ad σ k ≠ none → x_rho ad j = x_rho ad k → j = k) ∧ x_X σ
theorem x_eO {cs ad : Nat → Nat} {σ : xS} {k : Nat} {o : xO} (hk : k ≠ 22 ∧ k ≠ 23) (h : σ.1 k = some o) : x_e cs ad σ k = some (.inr (o.1, x_fs ad o)) := by rw [x_e_n hk]; unfold x_e0; rw [h]
theorem x_eG {cs ad : Nat → Nat} {σ : xS} {k : Nat} {t : Nat × (Nat → Int32)} (hX : x_X σ) (hk : k ≠ 22 ∧ k ≠ 23) (h : σ.2.1 k = some t) : x_e cs ad σ k = some (.inl (cs 0, t.1, .inl t.2)) := by
  have h0 : σ.1 k = none := by
    cases h1 : σ.1 k with
    | none => rfl
    | some o => have := ((hX.1 k).1 (by rw [h1]; exact fun z => by cases z)).1; rw [h] at this; cases this
  rw [x_e_n hk]; unfold x_e0; rw [h0, h]
theorem x_eR {cs ad : Nat → Nat} {σ : xS} {k : Nat} {t : Nat × (Nat → Option Nat)} (hX : x_X σ) (h : σ.2.2 k = some t) : x_e cs ad σ k = some (.inl (cs 2, t.1, .inr (.inr (.inr (.inr (fun j => (t.2 j).map (x_rho ad))))))) := by
  have h0 : σ.1 k = none := by
    cases h1 : σ.1 k with
    | none => rfl
    | some o => have := ((hX.1 k).1 (by rw [h1]; exact fun z => by cases z)).2; rw [h] at this; cases this
  have h2 : σ.2.1 k = none := by
    cases h1 : σ.2.1 k with
    | none => rfl
    | some o => have := (hX.1 k).2 (by rw [h1]; exact fun z => by cases z); rw [h] at this; cases this
  rw [x_e_n (x_nR hX h)]; unfold x_e0; rw [h0, h2, h]
theorem x_W_upd {D : va_G} {cs ad : Nat → Nat} {A : Nat → Prop} {σ σ' : xS} {H H1 : Heap} {k : Nat} {e e' : va_E} (hW : x_W D cs ad A σ H) (hk : x_e cs ad σ k = some e) (hk' : x_e cs ad σ' k = some e') (ho : ∀ j, j ≠ k → x_e cs ad σ' j = x_e cs ad σ j) (h1 : ∀ j, j ≠ k → σ'.1 j = σ.1 j) (hx : x_X σ') (hat : va_at D classes (x_rho ad k, e') H1) (hq : ∀ q : Nat, q ≠ x_rho ad k → H1[q]? = H[q]?) (hA : A (x_rho ad k)) : x_W D cs ad A σ' H1 := by
  have key : ∀ j, x_e cs ad σ' j ≠ none → x_e cs ad σ j ≠ none := fun j hj => by
    by_cases hjk : j = k
    · subst hjk; rw [hk]; exact fun z => by cases z
    · rw [← ho j hjk]; exact hj
  refine ⟨fun j e0 hj => ?_, fun i j hi hj => hW.2.1 i j (key i hi) (key j hj), hx⟩
  by_cases hjk : j = k
  · subst hjk
    rw [hk'] at hj
    cases hj
    exact ⟨hat, Or.inl hA⟩
  · rw [ho j hjk] at hj
    obtain ⟨g1, g2⟩ := hW.1 j e0 hj
    refine ⟨g1.kept (hq _ (fun z => hjk (hW.2.1 j k (by rw [hj]; exact fun z => by cases z) (by rw [hk]; exact fun z => by cases z) z))), ?_⟩
    rw [h1 j hjk]
    exact g2
theorem x_lt {D : va_G} {cs ad : Nat → Nat} {A : Nat → Prop} {σ : xS} {H : Heap} {k : Nat} (hW : x_W D cs ad A σ H) (h : x_e cs ad σ k ≠ none) : x_rho ad k < H.size := by
  cases he : x_e cs ad σ k with
  | none => exact absurd he h
  | some e => exact (hW.1 k e he).1.lt
theorem x_rho_new (ad : Nat → Nat) (n : Nat) : x_rho ad (n + 24) = n := by
  unfold x_rho
  rw [if_neg (by omega)]
  omega
theorem x_fresh {D : va_G} {cs ad : Nat → Nat} {A : Nat → Prop} {σ : xS} {H : Heap} (hW : x_W D cs ad A σ H) : x_e cs ad σ (H.size + 24) = none := by
  cases he : x_e cs ad σ (H.size + 24) with
  | none => rfl
  | some e =>
    have := x_lt hW (k := H.size + 24) (by rw [he]; exact fun z => by cases z)
    rw [x_rho_new] at this
    omega
theorem x_none {cs ad : Nat → Nat} {σ : xS} {k : Nat} (h : x_e cs ad σ (k + 24) = none) : σ.1 (k + 24) = none ∧ σ.2.1 (k + 24) = none ∧ σ.2.2 (k + 24) = none := by
  rw [x_e_n (x_h24 k)] at h
  unfold x_e0 at h
  split at h
  · cases h
  · rename_i h1
    split at h
    · cases h
    · rename_i h2
      split at h
      · cases h
      · rename_i h3
        exact ⟨h1, h2, h3⟩
theorem x_W_new {D : va_G} {cs ad : Nat → Nat} {A : Nat → Prop} {σ σ' : xS} {H H1 : Heap} {e' : va_E} (hW : x_W D cs ad A σ H) (hk' : x_e cs ad σ' (H.size + 24) = some e') (ho : ∀ j, j ≠ H.size + 24 → x_e cs ad σ' j = x_e cs ad σ j) (h1 : ∀ j, j ≠ H.size + 24 → σ'.1 j = σ.1 j) (hx : x_X σ') (hat : va_at D classes (H.size, e') H1) (hq : ∀ q : Nat, q < H.size → H1[q]? = H[q]?) (hA : A H.size) : x_W D cs ad A σ' H1 := by
  have key : ∀ j, j ≠ H.size + 24 → x_e cs ad σ' j ≠ none → x_rho ad j < H.size := fun j hjk hj => x_lt hW (by rw [← ho j hjk]; exact hj)
  refine ⟨fun j e0 hj => ?_, fun i j hi hj hij => ?_, hx⟩
  · by_cases hjk : j = H.size + 24
    · subst hjk
      rw [hk'] at hj
      cases hj
      rw [x_rho_new]
      exact ⟨hat, Or.inl hA⟩
    · have hlt := key j hjk (by rw [hj]; exact fun z => by cases z)
      rw [ho j hjk] at hj
      obtain ⟨g1, g2⟩ := hW.1 j e0 hj
      refine ⟨g1.kept (hq _ hlt), ?_⟩
      rw [h1 j hjk]
      exact g2
  · by_cases hik : i = H.size + 24
    · by_cases hjk : j = H.size + 24
      · rw [hik, hjk]
      · have := key j hjk hj
        rw [← hij, hik, x_rho_new] at this
        omega
    · by_cases hjk : j = H.size + 24
      · have := key i hik hi
        rw [hij, hjk, x_rho_new] at this
        omega
      · exact hW.2.1 i j (by rw [← ho i hik]; exact hi) (by rw [← ho j hjk]; exact hj) hij
def x_fm0 (i : Nat) : Option (Nat × Nat) := match i with
  | 12 => some (0, 0)
  | 16 => some (0, 2)
  | 20 => some (3, 1)
  | 25 => some (0, 1)
  | 30 => some (0, 5)
  | 34 => some (0, 6)
  | 41 => some (0, 3)
  | 44 => some (0, 4)
  | _ => none
def x_fm1 (i : Nat) : Option (Nat × Nat) := match i with
  | 11 => some (1, 0)
  | 17 => some (1, 1)
  | 29 => some (0, 0)
  | 32 => some (0, 3)
  | 36 => some (0, 4)
  | _ => none
def x_fm2 (i : Nat) : Option (Nat × Nat) := match i with
  | 11 => some (2, 0)
  | 17 => some (2, 1)
  | 21 => some (2, 2)
  | 25 => some (2, 3)
  | _ => none
def x_fm3 (i : Nat) : Option (Nat × Nat) := match i with
  | 9 => some (3, 0)
  | 15 => some (3, 1)
  | 27 => some (0, 0)
  | 32 => some (0, 3)
  | 36 => some (0, 4)
  | 39 => some (0, 5)
  | 42 => some (0, 6)
  | 45 => some (0, 1)
  | _ => none
def x_fm4 (i : Nat) : Option (Nat × Nat) := match i with
  | 9 => some (4, 0)
  | 22 => some (0, 8)
  | 27 => some (4, 1)
  | 30 => some (4, 2)
  | 40 => some (0, 3)
  | 44 => some (0, 4)
  | 47 => some (0, 5)
  | _ => none
def x_fm5 (i : Nat) : Option (Nat × Nat) := match i with
  | 9 => some (5, 0)
  | 18 => some (5, 1)
  | 25 => some (5, 2)
  | 29 => some (5, 3)
  | 33 => some (5, 4)
  | 37 => some (0, 1)
  | 69 => some (1, 1)
  | 79 => some (0, 3)
  | 82 => some (0, 0)
  | 85 => some (0, 4)
  | 88 => some (0, 7)
  | 99 => some (0, 5)
  | 102 => some (0, 6)
  | _ => none
def x_fm6 (i : Nat) : Option (Nat × Nat) := match i with
  | 11 => some (6, 0)
  | 15 => some (6, 1)
  | 18 => some (6, 2)
  | 21 => some (6, 3)
  | 28 => some (6, 4)
  | 35 => some (6, 5)
  | 42 => some (6, 6)
  | 49 => some (6, 7)
  | 56 => some (6, 8)
  | 60 => some (6, 9)
  | 63 => some (6, 10)
  | 81 => some (5, 0)
  | 84 => some (3, 1)
  | 109 => some (0, 1)
  | 125 => some (0, 0)
  | 133 => some (1, 1)
  | 148 => some (4, 1)
  | 151 => some (4, 2)
  | 165 => some (0, 6)
  | 168 => some (0, 5)
  | 205 => some (2, 2)
  | 208 => some (2, 3)
  | _ => none
def x_fm (o i : Nat) : Option (Nat × Nat) := match o with
  | 0 => x_fm0 i
  | 1 => x_fm1 i
  | 2 => x_fm2 i
  | 3 => x_fm3 i
  | 4 => x_fm4 i
  | 5 => x_fm5 i
  | 6 => x_fm6 i
  | _ => none
def x_kd (ci f : Nat) : Nat := match ci, f with
  | 0, 0 => 0
  | 0, 1 => 0
  | 0, 2 => 1
  | 0, 3 => 1
  | 0, 4 => 1
  | 0, 5 => 1
  | 0, 6 => 0
  | 0, 7 => 0
  | 0, 8 => 0
  | 1, 0 => 3
  | 1, 1 => 0
  | 2, 0 => 3
  | 2, 1 => 3
  | 2, 2 => 0
  | 2, 3 => 0
  | 3, 0 => 3
  | 3, 1 => 0
  | 4, 0 => 0
  | 4, 1 => 0
  | 4, 2 => 0
  | 5, 0 => 3
  | 5, 1 => 3
  | 5, 2 => 3
  | 5, 3 => 0
  | 5, 4 => 1
  | 6, 0 => 3
  | 6, 1 => 3
  | 6, 2 => 3
  | 6, 3 => 0
  | 6, 4 => 3
  | 6, 5 => 3
  | 6, 6 => 3
  | 6, 7 => 3
  | 6, 8 => 3
  | 6, 9 => 3
  | 6, 10 => 3
  | _, _ => 9
def x_cl0 (i : Nat) : Option Nat := match i with
  | 9 => some 0
  | _ => none
def x_cl1 (i : Nat) : Option Nat := match i with
  | 9 => some 0
  | _ => none
def x_cl2 (i : Nat) : Option Nat := match i with
  | 9 => some 0
  | _ => none
def x_cl3 (i : Nat) : Option Nat := match i with
  | _ => none
def x_cl4 (i : Nat) : Option Nat := match i with
  | _ => none
def x_cl5 (i : Nat) : Option Nat := match i with
  | 15 => some 1
  | 22 => some 3
  | 38 => some 0
  | _ => none
def x_cl6 (i : Nat) : Option Nat := match i with
  | 9 => some 0
  | 25 => some 3
  | 32 => some 2
  | 39 => some 1
  | 46 => some 5
  | 53 => some 4
  | _ => none
def x_cl (o i : Nat) : Option Nat := match o with
  | 0 => x_cl0 i
  | 1 => x_cl1 i
  | 2 => x_cl2 i
  | 3 => x_cl3 i
  | 4 => x_cl4 i
  | 5 => x_cl5 i
  | 6 => x_cl6 i
  | _ => none
def x_nf (c : Nat) : Nat := match c with
  | 0 => 9
  | 1 => 2
  | 2 => 4
  | 3 => 2
  | 4 => 3
  | 5 => 5
  | 6 => 11
  | _ => 0
def x_sm0 (i : Nat) : Option Nat := match i with
  | _ => none
def x_sm1 (i : Nat) : Option Nat := match i with
  | _ => none
def x_sm2 (i : Nat) : Option Nat := match i with
  | _ => none
def x_sm3 (i : Nat) : Option Nat := match i with
  | _ => none
def x_sm4 (i : Nat) : Option Nat := match i with
  | _ => none
def x_sm5 (i : Nat) : Option Nat := match i with
  | _ => none
def x_sm6 (i : Nat) : Option Nat := match i with
  | 74 => some 22
  | 78 => some 23
  | _ => none
def x_sm (o i : Nat) : Option Nat := match o with
  | 0 => x_sm0 i
  | 1 => x_sm1 i
  | 2 => x_sm2 i
  | 3 => x_sm3 i
  | 4 => x_sm4 i
  | 5 => x_sm5 i
  | 6 => x_sm6 i
  | _ => none
def x_len (σ : xS) (r : Nat) : Option Nat := match σ.2.1 r with
  | some t => some t.1
  | none => (σ.2.2 r).map (fun t => t.1)
/-- ini: a constructor, which may put final fields of its own class -/
def x_hk (ini : Bool) (o : Nat) : mH xS := fun ins st σ a b k => match ins with
  | .getfield i => (match st with
    | .inr (some r) :: st' => (match x_fm o i with
      | some q => ∃ c, σ.1 r = some c ∧ c.1 = q.1 ∧ (match x_kd q.1 q.2 % 2 with
        | 0 => k (.inl (c.2.1 q.2) :: st') σ a b
        | _ => k (.inr (c.2.2 q.2) :: st') σ a b)
      | none => False)
    | _ => False)
  | .putfield i => (match st with
    | v :: .inr (some r) :: st' => (match x_fm o i with
      | some q => ∃ c, σ.1 r = some c ∧ c.1 = q.1 ∧ (match v, x_kd q.1 q.2 with
        | .inl x, 0 => k st' (va_up σ.1 r (some (c.1, upd c.2.1 q.2 x, c.2.2)), σ.2) a b
        | .inr x, 1 => k st' (va_up σ.1 r (some (c.1, c.2.1, va_up c.2.2 q.2 x)), σ.2) a b
        | .inr x, 3 => (match ini && (q.1 == o) with
          | true => k st' (va_up σ.1 r (some (c.1, c.2.1, va_up c.2.2 q.2 x)), σ.2) a b
          | false => False)
        | _, _ => False)
      | none => False)
    | _ => False)
  | .iaload => (match st with
    | .inl i :: .inr (some r) :: st' => ∃ t, σ.2.1 r = some t ∧ vp_in i t.1 ∧ k (.inl (t.2 i.toNatClampNeg) :: st') σ a b
    | _ => False)
  | .iastore => (match st with
    | .inl v :: .inl i :: .inr (some r) :: st' => ∃ t, σ.2.1 r = some t ∧ r ≠ 22 ∧ r ≠ 23 ∧ vp_in i t.1 ∧ k st' (σ.1, va_up σ.2.1 r (some (t.1, upd t.2 i.toNatClampNeg v)), σ.2.2) a b
    | _ => False)
  | .aaload => (match st with
    | .inl i :: .inr (some r) :: st' => ∃ t, σ.2.2 r = some t ∧ vp_in i t.1 ∧ k (.inr (t.2 i.toNatClampNeg) :: st') σ a b
    | _ => False)
  | .aastore => (match st with
    | .inr v :: .inl i :: .inr (some r) :: st' => ∃ t, σ.2.2 r = some t ∧ r ≠ 22 ∧ r ≠ 23 ∧ vp_in i t.1 ∧ (∀ q, v = some q → ∃ c, σ.1 q = some c ∧ c.1 = 0) ∧ k st' (σ.1, σ.2.1, va_up σ.2.2 r (some (t.1, va_up t.2 i.toNatClampNeg v))) a b
    | _ => False)
  | .arraylength => (match st with
    | .inr (some r) :: st' => ∃ n, x_len σ r = some n ∧ k (.inl (nI n) :: st') σ a b
    | _ => False)
  | .new i => (match x_cl o i with
    | some ci => 1 ≤ a ∧ x_nf ci ≤ b ∧ ∀ q, 24 ≤ q → σ.1 q = none → σ.2.1 q = none → σ.2.2 q = none → k (.inr (some q) :: st) (va_up σ.1 q (some (ci, fun _ => 0, fun _ => none)), σ.2) (a - 1) (b - x_nf ci)
    | none => False)
  | .newarray .int => (match st with
    | .inl n :: st' => ¬ n < 0 ∧ 1 ≤ a ∧ n.toNatClampNeg ≤ b ∧ n.toNatClampNeg ≤ 100000 ∧ ∀ q, 24 ≤ q → σ.1 q = none → σ.2.1 q = none → σ.2.2 q = none → k (.inr (some q) :: st') (σ.1, va_up σ.2.1 q (some (n.toNatClampNeg, fun _ => 0)), σ.2.2) (a - 1) (b - n.toNatClampNeg)
    | _ => False)
  | .anewarray i => (match st with
    | .inl n :: st' => (match x_cl o i with
      | some 0 => ¬ n < 0 ∧ 1 ≤ a ∧ n.toNatClampNeg ≤ b ∧ n.toNatClampNeg ≤ 100000 ∧ ∀ q, 24 ≤ q → σ.1 q = none → σ.2.1 q = none → σ.2.2 q = none → k (.inr (some q) :: st') (σ.1, σ.2.1, va_up σ.2.2 q (some (n.toNatClampNeg, fun _ => none))) (a - 1) (b - n.toNatClampNeg)
      | _ => False)
    | _ => False)
  | .getstatic i => (match x_sm o i with
    | some r => k (.inr (some r) :: st) σ a b
    | none => False)
  | _ => False
set_option maxHeartbeats 4000000 in
theorem x_hk_mono (ini : Bool) (o : Nat) : mH_mono (x_hk ini o) := by
  intro ins st s a b k k' h h1
  unfold x_hk at *
  split at h1
  all_goals (try exact h1.elim)
  · split at h1 <;> (try exact h1.elim)
    split at h1 <;> (try exact h1.elim)
    obtain ⟨c, g1, g2, h1⟩ := h1
    refine ⟨c, g1, g2, ?_⟩
    split at h1 <;> exact h _ _ _ _ h1
  · split at h1 <;> (try exact h1.elim)
    split at h1 <;> (try exact h1.elim)
    obtain ⟨c, g1, g2, h1⟩ := h1
    refine ⟨c, g1, g2, ?_⟩
    split at h1 <;> (try exact h _ _ _ _ h1) <;> (try exact h1.elim)
    split at h1 <;> (first | exact h _ _ _ _ h1 | exact h1.elim)
  · split at h1 <;> (try exact h1.elim)
    obtain ⟨t, g1, g2, h1⟩ := h1
    exact ⟨t, g1, g2, h _ _ _ _ h1⟩
  · split at h1 <;> (try exact h1.elim)
    obtain ⟨t, g1, g2, g3, g4, h1⟩ := h1
    exact ⟨t, g1, g2, g3, g4, h _ _ _ _ h1⟩
  · split at h1 <;> (try exact h1.elim)
    obtain ⟨t, g1, g2, h1⟩ := h1
    exact ⟨t, g1, g2, h _ _ _ _ h1⟩
  · split at h1 <;> (try exact h1.elim)
    obtain ⟨t, g1, g2, g3, g4, g5, h1⟩ := h1
    exact ⟨t, g1, g2, g3, g4, g5, h _ _ _ _ h1⟩
  · split at h1 <;> (try exact h1.elim)
    obtain ⟨t, g1, h1⟩ := h1
    exact ⟨t, g1, h _ _ _ _ h1⟩
  · split at h1 <;> (try exact h1.elim)
    exact ⟨h1.1, h1.2.1, fun q g1 g2 g3 g4 => h _ _ _ _ (h1.2.2 q g1 g2 g3 g4)⟩
  · split at h1 <;> (try exact h1.elim)
    exact ⟨h1.1, h1.2.1, h1.2.2.1, h1.2.2.2.1, fun q g1 g2 g3 g4 => h _ _ _ _ (h1.2.2.2.2 q g1 g2 g3 g4)⟩
  · split at h1 <;> (try exact h1.elim)
    split at h1 <;> (try exact h1.elim)
    exact ⟨h1.1, h1.2.1, h1.2.2.1, h1.2.2.2.1, fun q g1 g2 g3 g4 => h _ _ _ _ (h1.2.2.2.2 q g1 g2 g3 g4)⟩
  · split at h1 <;> (first | exact h _ _ _ _ h1 | exact h1.elim)
