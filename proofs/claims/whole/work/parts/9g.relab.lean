/-! ===== the class's picture, named anew after its constructor ===== -/
def rl_psi (LS : List Nat) (k : Nat) : Option Nat := if k < 22 then LS[k]? else if k < 24 then some k else if k ∈ LS then none else some k
def rl_ix (LS : List Nat) (n : Nat) : Option Nat := (List.range 22).find? (fun i => LS[i]? == some n)
theorem rl_ix_s {LS : List Nat} {n i : Nat} (h : rl_ix LS n = some i) : i < 22 ∧ LS[i]? = some n := by
  have h1 := List.find?_some h
  have h2 := List.mem_of_find?_eq_some h
  exact ⟨List.mem_range.mp h2, by simpa using h1⟩
theorem rl_ix_n {LS : List Nat} {n i : Nat} (hi : i < 22) (h : LS[i]? = some n) : rl_ix LS n ≠ none := fun z => by
  have := List.find?_eq_none.mp z i (List.mem_range.mpr hi)
  exact this (by simpa using h)
def rl_phi (LS : List Nat) (ad : Nat → Nat) (n : Nat) : Nat := if n < 22 then ad n + 24 else (rl_ix LS n).getD n
def rl_ad (LS : List Nat) (ad : Nat → Nat) (k : Nat) : Nat := if k < 22 then LS.getD k 0 - 24 else ad k
def rl_o (φ : Nat → Nat) (o : xO) : xO := (o.1, o.2.1, fun j => (o.2.2 j).map φ)
def rl_t (φ : Nat → Nat) (t : Nat × (Nat → Option Nat)) : Nat × (Nat → Option Nat) := (t.1, fun j => (t.2 j).map φ)
def rl_s (LS : List Nat) (φ : Nat → Nat) (σ : xS) : xS := (fun k => (rl_psi LS k).bind (fun n => (σ.1 n).map (rl_o φ)), fun k => (rl_psi LS k).bind (fun n => σ.2.1 n), fun k => (rl_psi LS k).bind (fun n => (σ.2.2 n).map (rl_t φ)))
section RL
variable {LS : List Nat} {ad : Nat → Nat}
theorem rl_rho (h24 : ∀ x ∈ LS, 24 ≤ x) (n : Nat) : x_rho (rl_ad LS ad) (rl_phi LS ad n) = x_rho ad n := by
  unfold rl_phi
  split
  · rename_i h
    unfold x_rho
    rw [if_neg (by omega), if_pos (by omega)]
    omega
  · rename_i h
    cases hx : rl_ix LS n with
    | some i =>
      have h2 := rl_ix_s hx
      have h3 := h24 n (List.mem_of_getElem? h2.2)
      rw [Option.getD_some]
      unfold x_rho rl_ad
      rw [if_pos (by omega), if_pos h2.1, if_neg (by omega), List.getD_eq_getElem?_getD, h2.2]
      rfl
    | none =>
      rw [Option.getD_none]
      unfold x_rho rl_ad
      split
      · rfl
      · rfl
theorem rl_rhoK (h24 : ∀ x ∈ LS, 24 ≤ x) {k n : Nat} (h : rl_psi LS k = some n) : x_rho (rl_ad LS ad) k = x_rho ad n := by
  unfold rl_psi at h
  split at h
  · rename_i hk
    have h3 := h24 n (List.mem_of_getElem? h)
    unfold x_rho rl_ad
    rw [if_pos (by omega), if_pos hk, if_neg (by omega), List.getD_eq_getElem?_getD, h]
    rfl
  · rename_i hk
    split at h
    · rename_i hk2
      cases h
      unfold x_rho rl_ad
      rw [if_pos hk2, if_neg hk, if_pos hk2]
    · rename_i hk2
      split at h
      · cases h
      · cases h
        unfold x_rho
        rw [if_neg hk2, if_neg hk2]
theorem rl_uq (hnd : LS.Nodup) {i j n : Nat} (h1 : LS[i]? = some n) (h2 : LS[j]? = some n) : i = j := by
  have hi : i < LS.length := (List.getElem?_eq_some_iff.mp h1).1
  exact (List.getElem?_inj hi hnd).mp (h1.trans h2.symm)
theorem rl_inj (h24 : ∀ x ∈ LS, 24 ≤ x) (hnd : LS.Nodup) {j k n : Nat} (h1 : rl_psi LS j = some n) (h2 : rl_psi LS k = some n) : j = k := by
  unfold rl_psi at h1 h2
  split at h1
  · have m1 := List.mem_of_getElem? h1
    have g1 := h24 n m1
    split at h2
    · exact rl_uq hnd h1 h2
    · split at h2
      · cases h2; omega
      · split at h2
        · cases h2
        · rename_i z; cases h2; exact absurd m1 z
  · split at h1
    · cases h1
      split at h2
      · have := h24 j (List.mem_of_getElem? h2); omega
      · split at h2
        · exact (Option.some.inj h2).symm
        · split at h2
          · cases h2
          · exact (Option.some.inj h2).symm
    · split at h1
      · cases h1
      · rename_i z
        cases h1
        split at h2
        · exact absurd (List.mem_of_getElem? h2) z
        · split at h2
          · exact (Option.some.inj h2).symm
          · split at h2
            · cases h2
            · exact (Option.some.inj h2).symm
theorem rl_at (h24 : ∀ x ∈ LS, 24 ≤ x) (hnd : LS.Nodup) {i n : Nat} (hi : i < 22) (h : LS[i]? = some n) : rl_phi LS ad n = i := by
  have h3 := h24 n (List.mem_of_getElem? h)
  unfold rl_phi
  rw [if_neg (by omega)]
  cases hx : rl_ix LS n with
  | none => exact absurd hx (rl_ix_n hi h)
  | some j => exact rl_uq hnd (rl_ix_s hx).2 h
theorem rl_out {n : Nat} (h : 22 ≤ n) (hn : n ∉ LS) : rl_phi LS ad n = n := by
  unfold rl_phi
  rw [if_neg (by omega)]
  cases hx : rl_ix LS n with
  | none => rfl
  | some j => exact absurd (List.mem_of_getElem? (rl_ix_s hx).2) hn
end RL
theorem rl_mE {ad ad' φ : Nat → Nat} (h : ∀ n, x_rho ad' (φ n) = x_rho ad n) (x : Option Nat) : mE (x_rho ad') (.inr (x.map φ)) = mE (x_rho ad) (.inr x) := by
  cases x with
  | none => rfl
  | some n => show Value.ref _ = Value.ref _; rw [h]
theorem rl_fs {ad ad' φ : Nat → Nat} (h : ∀ n, x_rho ad' (φ n) = x_rho ad n) (o : xO) : x_fs ad' (rl_o φ o) = x_fs ad o := by
  obtain ⟨c, fi, fr⟩ := o
  unfold x_fs rl_o
  dsimp only
  split <;> simp only [rl_mE h]
theorem rl_e {cs ad ad' φ : Nat → Nat} {LS : List Nat} {σ : xS} (h24 : ∀ x ∈ LS, 24 ≤ x) (hnd : LS.Nodup) (h : ∀ n, x_rho ad' (φ n) = x_rho ad n) (k : Nat) : x_e cs ad' (rl_s LS φ σ) k = (rl_psi LS k).bind (fun n => x_e cs ad σ n) := by
  have p22 : rl_psi LS 22 = some 22 := by unfold rl_psi; rw [if_neg (by omega), if_pos (by omega)]
  have p23 : rl_psi LS 23 = some 23 := by unfold rl_psi; rw [if_neg (by omega), if_pos (by omega)]
  by_cases hk : k = 22 ∨ k = 23
  · have hp : rl_psi LS k = some k := by rcases hk with rfl | rfl; exact p22; exact p23
    rw [hp]
    show x_e cs ad' (rl_s LS φ σ) k = x_e cs ad σ k
    unfold x_e
    rw [if_pos hk, if_pos hk]
  · have hk' : k ≠ 22 ∧ k ≠ 23 := ⟨fun z => hk (Or.inl z), fun z => hk (Or.inr z)⟩
    rw [x_e_n hk']
    cases hp : rl_psi LS k with
    | none =>
      unfold x_e0 rl_s
      dsimp only
      rw [hp]
      rfl
    | some n =>
      have hn : n ≠ 22 ∧ n ≠ 23 := ⟨fun z => hk'.1 (rl_inj h24 hnd hp (by rw [z]; exact p22)), fun z => hk'.2 (rl_inj h24 hnd hp (by rw [z]; exact p23))⟩
      show x_e0 cs ad' (rl_s LS φ σ) k = x_e cs ad σ n
      rw [x_e_n hn]
      unfold x_e0 rl_s
      dsimp only
      rw [hp]
      simp only [Option.bind_some]
      cases h1 : σ.1 n with
      | some o =>
        simp only [Option.map_some, rl_fs h]
        rfl
      | none =>
        simp only [Option.map_none]
        cases h2 : σ.2.1 n with
        | some t => rfl
        | none =>
          dsimp only
          cases h3 : σ.2.2 n with
          | none => rfl
          | some t =>
            simp only [Option.map_some, rl_t]
            congr 8
            funext j
            rw [Option.map_map]
            congr 1
            funext n
            exact h n
theorem rl_W {D : va_G} {cs ad : Nat → Nat} {A : Nat → Prop} {LS : List Nat} {σ : xS} {H : Heap} (h24 : ∀ x ∈ LS, 24 ≤ x) (hnd : LS.Nodup) (h : x_W D cs ad A σ H) : x_W D cs (rl_ad LS ad) A (rl_s LS (rl_phi LS ad) σ) H := by
  have hr := rl_rho (ad := ad) h24
  refine ⟨fun k e he => ?_, fun j k hj hk hjk => ?_, fun k => ?_, ?_⟩
  · rw [rl_e h24 hnd hr] at he
    cases hp : rl_psi LS k with
    | none => rw [hp] at he; cases he
    | some n =>
      rw [hp] at he
      obtain ⟨g1, g2⟩ := h.1 n e he
      rw [rl_rhoK h24 hp]
      refine ⟨g1, ?_⟩
      rcases g2 with g2 | ⟨g2, g3⟩
      · exact Or.inl g2
      · right
        have hk : rl_psi LS n = some n := by
          unfold rl_psi
          rw [if_neg (by omega), if_pos (by omega)]
        obtain rfl := rl_inj h24 hnd hp hk
        refine ⟨?_, g3⟩
        show (rl_psi LS k).bind _ = none
        rw [hp]
        show (σ.1 k).map _ = none
        rw [g2]; rfl
  · rw [rl_e h24 hnd hr] at hj hk
    cases hp : rl_psi LS j with
    | none => rw [hp] at hj; exact absurd rfl hj
    | some n =>
      cases hq : rl_psi LS k with
      | none => rw [hq] at hk; exact absurd rfl hk
      | some n' =>
        rw [hp] at hj
        rw [hq] at hk
        rw [rl_rhoK h24 hp, rl_rhoK h24 hq] at hjk
        obtain rfl := h.2.1 n n' hj hk hjk
        exact rl_inj h24 hnd hp hq
  · unfold rl_s
    dsimp only
    cases rl_psi LS k with
    | none => exact ⟨fun z => absurd rfl z, fun z => absurd rfl z⟩
    | some n =>
      simp only [Option.bind_some]
      refine ⟨fun z => ?_, fun z => ?_⟩
      · have h1 := (h.2.2.1 n).1 (fun q => z (by rw [q]; rfl))
        exact ⟨h1.1, by rw [h1.2]; rfl⟩
      · have h1 := (h.2.2.1 n).2 z
        rw [h1]; rfl
  · have p22 : rl_psi LS 22 = some 22 := by unfold rl_psi; rw [if_neg (by omega), if_pos (by omega)]
    have p23 : rl_psi LS 23 = some 23 := by unfold rl_psi; rw [if_neg (by omega), if_pos (by omega)]
    unfold rl_s x_R
    dsimp only
    rw [p22, p23]
    simp only [Option.bind_some, h.2.2.2.1.1, h.2.2.2.1.2.1, h.2.2.2.1.2.2.1, h.2.2.2.1.2.2.2, Option.map_none]
    exact ⟨⟨trivial, trivial, trivial, trivial⟩, h.2.2.2.2.1, h.2.2.2.2.2⟩
theorem AP_nl {α : Type} (f : Nat → α) : AP f [] := fun j x h => by simp at h
/-- the shelf's first state -/
theorem rl_XS {ad : Nat → Nat} {σ : xS} {LS sl : List Nat} (hq : CQ σ LS sl) (hX : x_X σ) : XS (rl_s LS (rl_phi LS ad) σ) (fun c => if c ∈ sl then some (.inl []) else none) sl (fun _ => none) [] [] 0 [] 8 6 4 0 0 [] := by
  obtain ⟨t, q1, q2, q3, q4, q5, q6, q7, q8, q9, q10, q11, q12, q13, q14, q15, q16, q17, q18, q19, q20, q21, rfl, gl, hlow, hS, ⟨fi, fr, et, f0, f1, f2, f4, f5, f6, f7, f8, f9, f10, fi3⟩, ⟨g, e1, e2⟩, h8, hnd, hlf, ⟨r2, w2⟩, ⟨r3, w3⟩, x4, x6, x9, x11, x13, x15, x17, x18, x20⟩ := hq
  obtain ⟨gn, g24⟩ := gl
  have h24 : ∀ x ∈ [t, q1, q2, q3, q4, q5, q6, q7, q8, q9, q10, q11, q12, q13, q14, q15, q16, q17, q18, q19, q20, q21], 24 ≤ x := fun x hx => (g24 x hx).1
  have at_ : ∀ i n, i < 22 → [t, q1, q2, q3, q4, q5, q6, q7, q8, q9, q10, q11, q12, q13, q14, q15, q16, q17, q18, q19, q20, q21][i]? = some n → rl_phi [t, q1, q2, q3, q4, q5, q6, q7, q8, q9, q10, q11, q12, q13, q14, q15, q16, q17, q18, q19, q20, q21] ad n = i := fun i n hi h => rl_at h24 gn hi h
  have out_ : ∀ n, 22 ≤ n → n ∉ [t, q1, q2, q3, q4, q5, q6, q7, q8, q9, q10, q11, q12, q13, q14, q15, q16, q17, q18, q19, q20, q21] → rl_phi [t, q1, q2, q3, q4, q5, q6, q7, q8, q9, q10, q11, q12, q13, q14, q15, q16, q17, q18, q19, q20, q21] ad n = n := fun n => rl_out
  generalize hphi : rl_phi [t, q1, q2, q3, q4, q5, q6, q7, q8, q9, q10, q11, q12, q13, q14, q15, q16, q17, q18, q19, q20, q21] ad = φ at *
  have psL : ∀ i n, i < 22 → [t, q1, q2, q3, q4, q5, q6, q7, q8, q9, q10, q11, q12, q13, q14, q15, q16, q17, q18, q19, q20, q21][i]? = some n → rl_psi [t, q1, q2, q3, q4, q5, q6, q7, q8, q9, q10, q11, q12, q13, q14, q15, q16, q17, q18, q19, q20, q21] i = some n := fun i n hi h => by unfold rl_psi; rw [if_pos hi]; exact h
  have psS : ∀ n, 22 ≤ n → n < 24 → rl_psi [t, q1, q2, q3, q4, q5, q6, q7, q8, q9, q10, q11, q12, q13, q14, q15, q16, q17, q18, q19, q20, q21] n = some n := fun n h1 h2 => by unfold rl_psi; rw [if_neg (by omega), if_pos h2]
  have psO : ∀ n, 24 ≤ n → n ∉ [t, q1, q2, q3, q4, q5, q6, q7, q8, q9, q10, q11, q12, q13, q14, q15, q16, q17, q18, q19, q20, q21] → rl_psi [t, q1, q2, q3, q4, q5, q6, q7, q8, q9, q10, q11, q12, q13, q14, q15, q16, q17, q18, q19, q20, q21] n = some n := fun n h1 h2 => by unfold rl_psi; rw [if_neg (by omega), if_neg (by omega), if_neg h2]
  have a1 := at_ 1 q1 (by omega) rfl
  have a2 := at_ 2 q2 (by omega) rfl
  have a3 := at_ 3 q3 (by omega) rfl
  have a4 := at_ 4 q4 (by omega) rfl
  have a5 := at_ 5 q5 (by omega) rfl
  have a6 := at_ 6 q6 (by omega) rfl
  have a7 := at_ 7 q7 (by omega) rfl
  have a8 := at_ 8 q8 (by omega) rfl
  have a9 := at_ 9 q9 (by omega) rfl
  have a10 := at_ 10 q10 (by omega) rfl
  have a11 := at_ 11 q11 (by omega) rfl
  have a12 := at_ 12 q12 (by omega) rfl
  have a13 := at_ 13 q13 (by omega) rfl
  have a14 := at_ 14 q14 (by omega) rfl
  have a15 := at_ 15 q15 (by omega) rfl
  have a16 := at_ 16 q16 (by omega) rfl
  have a17 := at_ 17 q17 (by omega) rfl
  have a18 := at_ 18 q18 (by omega) rfl
  have a19 := at_ 19 q19 (by omega) rfl
  have a20 := at_ 20 q20 (by omega) rfl
  have a21 := at_ 21 q21 (by omega) rfl
  have p0 := psL 0 t (by omega) rfl
  have p1 := psL 1 q1 (by omega) rfl
  have p2 := psL 2 q2 (by omega) rfl
  have p3 := psL 3 q3 (by omega) rfl
  have p4 := psL 4 q4 (by omega) rfl
  have p5 := psL 5 q5 (by omega) rfl
  have p6 := psL 6 q6 (by omega) rfl
  have p7 := psL 7 q7 (by omega) rfl
  have p8 := psL 8 q8 (by omega) rfl
  have p9 := psL 9 q9 (by omega) rfl
  have p10 := psL 10 q10 (by omega) rfl
  have p11 := psL 11 q11 (by omega) rfl
  have p12 := psL 12 q12 (by omega) rfl
  have p13 := psL 13 q13 (by omega) rfl
  have p14 := psL 14 q14 (by omega) rfl
  have p15 := psL 15 q15 (by omega) rfl
  have p16 := psL 16 q16 (by omega) rfl
  have p17 := psL 17 q17 (by omega) rfl
  have p18 := psL 18 q18 (by omega) rfl
  have p19 := psL 19 q19 (by omega) rfl
  have p20 := psL 20 q20 (by omega) rfl
  have p21 := psL 21 q21 (by omega) rfl
  have p22 := psS 22 (by omega) (by omega)
  have p23 := psS 23 (by omega) (by omega)
  have hlf' : ∀ c ∈ sl, 24 ≤ c ∧ c ∉ [t, q1, q2, q3, q4, q5, q6, q7, q8, q9, q10, q11, q12, q13, q14, q15, q16, q17, q18, q19, q20, q21] ∧ ∃ fi fr p g, σ.1 c = some (0, fi, fr) ∧ fi 0 = nI 0 ∧ fi 1 = nI 0 ∧ fi 6 = nI 0 ∧ fi 7 = 0 ∧ fi 8 = 0 ∧ fr 2 = some p ∧ fr 3 = none ∧ fr 4 = none ∧ fr 5 = none ∧ 24 ≤ p ∧ p ∉ [t, q1, q2, q3, q4, q5, q6, q7, q8, q9, q10, q11, q12, q13, q14, q15, q16, q17, q18, q19, q20, q21] ∧ σ.2.1 p = some (0, g) := by
    intro c hc
    obtain ⟨σA, ⟨c24, cf, fi, fr, p, g, b1, b2, b3, b4, b5, b6, b7, b8, b9, b10, b11, b12, b13⟩, hA⟩ := hlf c hc
    exact ⟨c24, fun z => hA c z cf, fi, fr, p, g, b1, b2, b3, b4, b5, b6, b7, b8, b9, b10, b11, fun z => hA p z b12, b13⟩
  have R_ : ∀ r v, σ.2.2 r = some v → σ.2.1 r = none := fun r v hv => by
    cases hg : σ.2.1 r with
    | none => rfl
    | some w => have := (hX.1 r).2 (by rw [hg]; exact fun z => by cases z); rw [hv] at this; cases this
  generalize [t, q1, q2, q3, q4, q5, q6, q7, q8, q9, q10, q11, q12, q13, q14, q15, q16, q17, q18, q19, q20, q21] = LS at *
  have o_ : ∀ k n o, rl_psi LS k = some n → σ.1 n = some o → (rl_s LS φ σ).1 k = some (rl_o φ o) := fun k n o h1 h2 => by
    show (rl_psi LS k).bind _ = _
    rw [h1]
    show (σ.1 n).map _ = _
    rw [h2]; rfl
  have g_ : ∀ k n v, rl_psi LS k = some n → σ.2.1 n = v → (rl_s LS φ σ).2.1 k = v := fun k n o h1 h2 => by
    show (rl_psi LS k).bind _ = _
    rw [h1]
    exact h2
  have r_ : ∀ k n v, rl_psi LS k = some n → σ.2.2 n = some v → (rl_s LS φ σ).2.2 k = some (rl_t φ v) := fun k n o h1 h2 => by
    show (rl_psi LS k).bind _ = _
    rw [h1]
    show (σ.2.2 n).map _ = _
    rw [h2]; rfl
  have TX_ : ∀ k n m, rl_psi LS k = some n → rl_psi LS (k + 1) = some m → φ m = k + 1 → TXQ σ n m → TXT (rl_s LS φ σ) k [] := by
    rintro k n m h1 h2 h3 ⟨fi, fr, g, b1, b2, b3, b4⟩
    exact ⟨fi, _, g, o_ k n _ h1 b1, by show (fr 0).map φ = _; rw [b2, ← h3]; rfl, b3, g_ _ m _ h2 b4, AP_nl _, by simp⟩
  have PC_ : ∀ k n m, rl_psi LS k = some n → rl_psi LS (k + 1) = some m → φ m = k + 1 → PCQ σ n m → PCS (rl_s LS φ σ) k [] := by
    rintro k n m h1 h2 h3 ⟨fi, fr, g, b1, b2, b3, b4⟩
    exact ⟨fi, _, _, o_ k n _ h1 b1, by show (fr 0).map φ = _; rw [b2, ← h3]; rfl, b3, g_ _ m _ h2 (R_ _ _ b4), r_ _ m _ h2 b4, AP_nl _, by simp⟩
  have IR_ : ∀ k n v, rl_psi LS k = some n → σ.2.2 n = some (8, v) → IR (rl_s LS φ σ) k none := fun k n v h1 h2 => ⟨_, r_ _ n _ h1 h2, g_ _ n _ h1 (R_ _ _ h2), fun l z => by cases z⟩
  have hT : ∀ (T : sT), (∀ c, T c = if c ∈ sl then some (.inl []) else none) → ∀ c v, T c = some v → c ∈ sl ∧ v = .inl [] := fun T hT c v hc => by
    rw [hT c] at hc
    split at hc
    · exact ⟨by assumption, (Option.some.inj hc).symm⟩
    · cases hc
  generalize hTT : (fun c => if c ∈ sl then some (.inl []) else none : sT) = T
  have hT1 := hT T (fun c => by rw [← hTT])
  have hT2 : ∀ c ∈ sl, T c = some (.inl []) := fun c hc => by rw [← hTT]; simp [hc]
  have okn : okt [] := ⟨by simp, by simp⟩
  refine ⟨⟨?_, ?_, ?_, ?_, ⟨_, PC_ 13 q13 q14 p13 p14 a14 x13⟩, ⟨_, TX_ 15 q15 q16 p15 p16 a16 x15⟩, ?_, List.nodup_nil, by simp⟩, ⟨?_, ?_, IR_ 2 q2 _ p2 w2, IR_ 3 q3 _ p3 w3, TX_ 4 q4 q5 p4 p5 a5 x4, ?_, ⟨_, PC_ 9 q9 q10 p9 p10 a10 x9⟩, ?_, ⟨_, TX_ 18 q18 q19 p18 p19 a19 x18⟩, ⟨_, TX_ 20 q20 q21 p20 p21 a21 x20⟩, ?_⟩, ?_, ⟨by simp, by simp⟩, by omega⟩
  · intro c v hc
    obtain ⟨hc', rfl⟩ := hT1 c v hc
    obtain ⟨c24, cL, fi, fr, p, g, b1, b2, b3, b4, b5, b6, b7, b8, b9, b10, b11, b12, b13⟩ := hlf' c hc'
    refine ⟨c24, _, o_ c c _ (psO c c24 cL) b1, rfl, ?_, b2, b4, ?_, ?_, ?_, p, g, ?_, b11, g_ p p _ (psO p b11 b12) b13, AP_nl _⟩
    · rw [tx_leaf hc]; exact b3
    · show (fr 3).map φ = none; rw [b8]; rfl
    · show (fr 4).map φ = none; rw [b9]; rfl
    · show (fr 5).map φ = none; rw [b10]; rfl
    · show (fr 2).map φ = some p
      rw [b7]
      show some (φ p) = some p
      rw [out_ p (by omega) b12]
  · intro c hc
    obtain ⟨v, hv⟩ := Option.ne_none_iff_exists'.mp hc
    obtain ⟨hc', rfl⟩ := hT1 c v hv
    exact (wf_leaf hv).mpr okn
  · obtain ⟨wi, wr, wg, b1, b2, b3, b4, b5, b6, b7, b8, b9, b10⟩ := x11
    refine ⟨wi, _, o_ 11 q11 _ p11 b1, ?_, ?_, ?_, b5, ?_⟩
    · show (wr 0).map φ = _; rw [b2, ← a12]; rfl
    · show (wr 1).map φ = _; rw [b3, ← a13]; rfl
    · show (wr 2).map φ = _; rw [b4, ← a15]; rfl
    · show (wr 4).map φ = none; rw [b6]; rfl
  · obtain ⟨wi, wr, wg, b1, b2, b3, b4, b5, b6, b7, b8, b9, b10⟩ := x11
    exact ⟨wg, g_ 12 q12 _ p12 b7, b8, b9, b10⟩
  · intro c o hc ho
    obtain ⟨v, hv⟩ := Option.ne_none_iff_exists'.mp hc
    obtain ⟨hc', rfl⟩ := hT1 c v hv
    obtain ⟨c24, cL, fi, fr, p, g, b1, b2, b3, b4, b5, b6, -⟩ := hlf' c hc'
    rw [o_ c c _ (psO c c24 cL) b1] at ho
    cases ho
    exact ⟨⟨0, Nat.le_refl _, b5⟩, 0, Nat.le_refl _, b6⟩
  · refine ⟨fi, _, o_ 0 t _ p0 et, ?_, ?_, ?_, ?_, ?_, ?_, ?_, ?_, ?_, ?_, fi3⟩
    · show (fr 0).map φ = _; rw [f0, ← a1]; rfl
    · show (fr 1).map φ = _; rw [f1, ← a2]; rfl
    · show (fr 2).map φ = _; rw [f2, ← a3]; rfl
    · show (fr 4).map φ = _; rw [f4, ← a4]; rfl
    · show (fr 5).map φ = _; rw [f5, ← a6]; rfl
    · show (fr 6).map φ = _; rw [f6, ← a9]; rfl
    · show (fr 7).map φ = _; rw [f7, ← a11]; rfl
    · show (fr 8).map φ = _; rw [f8, ← a17]; rfl
    · show (fr 9).map φ = _; rw [f9, ← a18]; rfl
    · show (fr 10).map φ = _; rw [f10, ← a20]; rfl
  · refine ⟨_, r_ 1 q1 _ p1 e1, g_ 1 q1 _ p1 (R_ _ _ e1), fun l hl => ?_⟩
    cases hl
    refine ⟨fun j x hx => ?_, h8⟩
    show (g j).map φ = x
    rw [e2 j x hx]
    rw [List.getElem?_map] at hx
    cases hj : sl[j]? with
    | none => rw [hj] at hx; cases hx
    | some c =>
      rw [hj] at hx
      cases hx
      obtain ⟨c24, cL, -⟩ := hlf' c (List.mem_of_getElem? hj)
      show some (φ c) = some c
      rw [out_ c (by omega) cL]
  · obtain ⟨ti, tr, tg, th, b1, b2, b3, b4, b5, b6, b7⟩ := x6
    refine ⟨ti, _, _, th, o_ 6 q6 _ p6 b1, ?_, ?_, b4, b5, g_ 7 q7 _ p7 (R_ _ _ b6), r_ 7 q7 _ p7 b6, AP_nl _, g_ 8 q8 _ p8 b7, AP_nl _, rfl, by simp⟩
    · show (tr 0).map φ = _; rw [b2, ← a7]; rfl
    · show (tr 1).map φ = _; rw [b3, ← a8]; rfl
  · obtain ⟨wi, wr, b1, b2⟩ := x17
    exact ⟨wi, _, o_ 17 q17 _ p17 b1, b2⟩
  · obtain ⟨sg, sh, b1, b2, b3, b4, b5, b6, b7, b8⟩ := hS
    exact ⟨sg, sh, g_ 22 22 _ p22 b1, b2, b3, b4, g_ 23 23 _ p23 b5, b6, b7, b8⟩
  · intro r hr
    have hr : r ∈ sl := by simpa [rts] using hr
    exact (wf_leaf (hT2 r hr)).mpr okn
