/-! ===== the class: the shelf's constructor ===== -/
def GL (σ : xS) (LS : List Nat) : Prop := LS.Nodup ∧ ∀ x ∈ LS, 24 ≤ x ∧ ¬ fre σ x
theorem GL_add {ko kr : List Nat} {σ σ' : xS} {LS M : List Nat} (h : GL σ LS) (hN : NF ko kr σ σ') (hM : M.Nodup) (hf : ∀ x ∈ M, frs σ x) (hu : ∀ x ∈ M, ¬ fre σ' x) : GL σ' (LS ++ M) := by
  refine ⟨List.nodup_append.mpr ⟨h.1, hM, fun x hx y hy hxy => ?_⟩, fun x hx => ?_⟩
  · subst hxy
    exact (h.2 x hx).2 (hf x hy).2
  · rcases List.mem_append.mp hx with hx | hx
    · exact ⟨(h.2 x hx).1, (hN.1 x (h.2 x hx).2).2.2.2⟩
    · exact ⟨(hf x hx).1, hu x hx⟩
theorem TXQ_u {σ : xS} {t r : Nat} (h : TXQ σ t r) : ¬ fre σ t ∧ ¬ fre σ r := by
  obtain ⟨_, _, _, z1, _, _, z2⟩ := h
  exact ⟨fre1 z1, fre2 z2⟩
theorem PCQ_u {σ : xS} {t r : Nat} (h : PCQ σ t r) : ¬ fre σ t ∧ ¬ fre σ r := by
  obtain ⟨_, _, _, z1, _, _, z2⟩ := h
  exact ⟨fre1 z1, fre3 z2⟩
theorem TBQ_u {σ : xS} {t r r' : Nat} (h : TBQ σ t r r') : ¬ fre σ t ∧ ¬ fre σ r ∧ ¬ fre σ r' := by
  obtain ⟨_, _, _, _, z1, _, _, _, _, z2, z3⟩ := h
  exact ⟨fre1 z1, fre3 z2, fre2 z3⟩
theorem WKQ_u {σ : xS} {t : Nat} (h : WKQ σ t) : ¬ fre σ t := by
  obtain ⟨_, _, z1, _⟩ := h
  exact fre1 z1
theorem RWQ_u {σ : xS} {r : Nat} (h : RWQ σ r) : ¬ fre σ r := by
  obtain ⟨_, z1⟩ := h
  exact fre3 z1
theorem WVQ_u {σ : xS} {t r p x : Nat} (h : WVQ σ t r p x) : ¬ fre σ t ∧ ¬ fre σ r := by
  obtain ⟨_, _, _, z1, _, _, _, _, _, z2, _⟩ := h
  exact ⟨fre1 z1, fre2 z2⟩
/-- a leaf without signs -/
def LF0 (σ σA : xS) (c : Nat) : Prop := 24 ≤ c ∧ fre σA c ∧ ∃ fi fr p g, σ.1 c = some (0, fi, fr) ∧ fi 0 = nI 0 ∧ fi 1 = nI 0 ∧ fi 6 = nI 0 ∧ fi 7 = 0 ∧ fi 8 = 0 ∧ fr 2 = some p ∧ fr 3 = none ∧ fr 4 = none ∧ fr 5 = none ∧ 24 ≤ p ∧ fre σA p ∧ σ.2.1 p = some (0, g)
theorem LF0_n {ko kr : List Nat} {σ σ' σA : xS} {c : Nat} (h : LF0 σ σA c) (hn : NF ko kr σ σ') (hc : c ∉ ko) : LF0 σ' σA c := by
  obtain ⟨h1, h2, fi, fr, p, g, a1, a2, a3, a4, a5, a6, a7, a8, a9, a10, a11, a12, a13⟩ := h
  exact ⟨h1, h2, fi, fr, p, g, by rw [(hn.1 c (fre1 a1)).1 hc]; exact a1, a2, a3, a4, a5, a6, a7, a8, a9, a10, a11, a12, by rw [(hn.1 p (fre2 a13)).2.1]; exact a13⟩
theorem j_emptyLeaf {σ σA : xS} (hA : ∀ k, fre σ k → fre σA k) {r : Option Nat} {σ' : xS} (hp : ∃ c q g fi fr, r = some c ∧ frs σ c ∧ frs σ q ∧ q ≠ c ∧ σ' = (va_up σ.1 c (some (0, fi, fr)), va_up σ.2.1 q (some (0, g)), σ.2.2) ∧ fi 0 = nI 0 ∧ fi 1 = nI 0 ∧ fi 6 = nI 0 ∧ fi 7 = 0 ∧ fi 8 = 0 ∧ fr 2 = some q ∧ fr 3 = none ∧ fr 4 = none ∧ fr 5 = none) : ∃ c, r = some c ∧ frs σ c ∧ NF [] [] σ σ' ∧ LF0 σ' σA c := by
  obtain ⟨c, q, g, fi, fr, rfl, hc, hq, hqc, rfl, b2, b3, b4, b5, b6, b7, b8, b9, b10⟩ := hp
  have hN := NF_o hc (0, fi, fr)
  have hq1 : frs (va_up σ.1 c (some (0, fi, fr)), σ.2) q := ⟨hq.1, (va_up_ne _ _ hqc).trans hq.2.1, hq.2.2.1, hq.2.2.2⟩
  have n1 : NF [] [] (va_up σ.1 c (some (0, fi, fr)), σ.2) (va_up σ.1 c (some (0, fi, fr)), va_up σ.2.1 q (some (0, g)), σ.2.2) := NF_g hq1 (0, g)
  exact ⟨c, rfl, hc, NF_tr hN n1, hc.1, hA c hc.2, fi, fr, q, g, va_up_self _ _ _, b2, b3, b4, b5, b6, b7, b8, b9, b10, hq.1, hA q hq.2, va_up_self _ _ _⟩
/-- the shelf as it was made -/
def CQ (σ : xS) (LS sl : List Nat) : Prop := ∃ t q1 q2 q3 q4 q5 q6 q7 q8 q9 q10 q11 q12 q13 q14 q15 q16 q17 q18 q19 q20 q21, LS = [t, q1, q2, q3, q4, q5, q6, q7, q8, q9, q10, q11, q12, q13, q14, q15, q16, q17, q18, q19, q20, q21] ∧ GL σ LS ∧ (∀ k, k < 22 → fre σ k) ∧ STc σ ∧
  (∃ fi fr, σ.1 t = some (6, fi, fr) ∧ fr 0 = some q1 ∧ fr 1 = some q2 ∧ fr 2 = some q3 ∧ fr 4 = some q4 ∧ fr 5 = some q6 ∧ fr 6 = some q9 ∧ fr 7 = some q11 ∧ fr 8 = some q17 ∧ fr 9 = some q18 ∧ fr 10 = some q20 ∧ fi 3 = nI 0) ∧
  (∃ g, σ.2.2 q1 = some (8, g) ∧ AP g (sl.map some)) ∧ sl.length = 8 ∧ sl.Nodup ∧ (∀ c ∈ sl, ∃ σA, LF0 σ σA c ∧ ∀ x ∈ LS, ¬ fre σA x) ∧ RWQ σ q2 ∧ RWQ σ q3 ∧ TXQ σ q4 q5 ∧ TBQ σ q6 q7 q8 ∧ PCQ σ q9 q10 ∧ WVQ σ q11 q12 q13 q15 ∧ PCQ σ q13 q14 ∧ TXQ σ q15 q16 ∧ WKQ σ q17 ∧ TXQ σ q18 q19 ∧ TXQ σ q20 q21
set_option maxHeartbeats 4000000 in
theorem c_loop {sA : xS} {t : Nat} {LS : List Nat} {fi : Nat → Int32} {fr : Nat → Option Nat} {q1 : Nat} {g0 : Nat → Option Nat} (gl : GL sA LS) (hq1 : q1 ∈ LS) (et : sA.1 t = some (6, fi, fr)) (f0 : fr 0 = some q1) (e1 : sA.2.2 q1 = some (8, g0)) (e1' : sA.2.1 q1 = none) (h22 : q1 ≠ 22 ∧ q1 ≠ 23) {ret : Option mV → xS → Prop} (K : ∀ (s : xS) (sl : List Nat) (g : Nat → Option Nat), NF [] [q1] sA s → s.2.2 q1 = some (8, g) → AP g (sl.map some) → sl.length = 8 → sl.Nodup → (∀ c ∈ sl, LF0 s sA c) → ret none s) : ∀ y : Nat × List Nat × (Nat → Option Nat) × xS × Nat × Nat, (y.1 ≤ 8 ∧ y.2.1.length = y.1 ∧ NF [] [q1] sA y.2.2.2.1 ∧ y.2.2.2.1.2.2 q1 = some (8, y.2.2.1) ∧ AP y.2.2.1 (y.2.1.map some) ∧ y.2.1.Nodup ∧ (∀ c ∈ y.2.1, LF0 y.2.2.2.1 sA c) ∧ 2 * (8 - y.1) ≤ y.2.2.2.2.1 ∧ 9 * (8 - y.1) ≤ y.2.2.2.2.2) → W_X6_init ret (115, [some (.inr (some t)), some (.inl (nI y.1))], [], y.2.2.2.1, y.2.2.2.2.1, y.2.2.2.2.2) := by
  refine mm_loop _ _ (fun y => 8 - y.1) ?_
  rintro ⟨i, sl, g, s, a, b⟩ ⟨j0, j1, j2, j3, j4, j5, j6, j7, j8⟩ ih
  dsimp only at j0 j1 j2 j3 j4 j5 j6 j7 j8 ⊢
  have et' : s.1 t = some (6, fi, fr) := by rw [(j2.1 t (fre1 et)).1 (by simp)]; exact et
  have e1g : s.2.1 q1 = none := by rw [(j2.1 q1 (fre3 e1)).2.1]; exact e1'
  rw [r_X6_init_115]
  simp only [r_X6_init_116, r_X6_init_117, r_X6_init_120, r_X6_init_121, r_X6_init_124, r_X6_init_125, r_X6_init_128, r_X6_init_129, r_X6_init_139, xo et', f0, true_and, xl (x_lenR e1g j3), nI_leI (show 8 < 2 ^ 31 by omega) (show i < 2 ^ 31 by omega)]
  refine ⟨fun hle => ?_, fun hle => ?_⟩
  · exact K s sl g j2 j3 j4 (by omega) j5 j6
  · have hA : ∀ k, fre s k → fre sA k := fun k hk => Classical.not_not.mp (fun z => (j2.1 k z).2.2.2 hk)
    refine ⟨2, 9, _, by omega, by omega, q_emptyLeaf s, ?_⟩
    intro r s' hp
    obtain ⟨c, rfl, hc, n1, l1⟩ := j_emptyLeaf hA hp
    have e1s : s'.2.2 q1 = some (8, g) := by rw [(n1.1 q1 (fre3 j3)).2.2.1 (by simp)]; exact j3
    obtain ⟨l24, lA, ci, cr, cp, cg, k1, krest⟩ := id l1
    simp only [r_X6_init_132, r_X6_init_133, r_X6_init_136, xr e1s, sD, xo k1, true_and, vp_in_i (show i < 2 ^ 31 by omega), nI_clamp (show i < 2 ^ 31 by omega), nI_add, and_true]
    refine ⟨h22.1, h22.2, by omega, ?_⟩
    have n2 : NF [] [q1] s' (s'.1, s'.2.1, va_up s'.2.2 q1 (some (8, va_up g i (some c)))) := by
      refine ⟨fun k hk => ⟨fun _ => rfl, rfl, fun z => va_up_ne _ _ (by simpa using z), fun z => ?_⟩, fun k hk hf => ⟨hf.1, hf.2.1, ?_⟩⟩
      · by_cases hkq : k = q1
        · subst hkq
          have := z.2.2
          rw [show (s'.1, s'.2.1, va_up s'.2.2 k (some (8, va_up g i (some c)))).2.2 k = va_up s'.2.2 k (some (8, va_up g i (some c))) k from rfl, va_up_self] at this
          cases this
        · have := z.2.2
          rw [show (s'.1, s'.2.1, va_up s'.2.2 q1 (some (8, va_up g i (some c)))).2.2 k = va_up s'.2.2 q1 (some (8, va_up g i (some c))) k from rfl, va_up_ne _ _ hkq] at this
          exact hk ⟨z.1, z.2.1, this⟩
      · show va_up s'.2.2 q1 _ k = none
        have : k ≠ q1 := fun z => fre3 e1s (by rw [← z]; exact hf)
        rw [va_up_ne _ _ this]; exact hf.2.2
    have n3 := NF_tr (NF_tr j2 (NF_w n1 (by simp) (by simp))) n2
    refine ih (i + 1, sl ++ [c], va_up g i (some c), (s'.1, s'.2.1, va_up s'.2.2 q1 (some (8, va_up g i (some c)))), a - 2, b - 9) ⟨by dsimp only; omega, by dsimp only; rw [List.length_append, j1]; rfl, n3, va_up_self _ _ _, ?_, ?_, ?_, by dsimp only; omega, by dsimp only; omega⟩ (by dsimp only; omega)
    · dsimp only
      have := AP_pushV j4 (some c)
      rw [List.length_map, j1] at this
      rw [List.map_append]; exact this
    · dsimp only
      refine List.nodup_append.mpr ⟨j5, by simp, fun x hx y hy hxy => ?_⟩
      have hy := List.mem_singleton.mp hy
      subst hxy
      subst hy
      obtain ⟨-, -, _, _, _, _, z, -⟩ := j6 x hx
      exact fre1 z hc.2
    · dsimp only
      intro x hx
      rcases List.mem_append.mp hx with hx | hx
      · exact LF0_n (LF0_n (j6 x hx) n1 (by simp)) n2 (by simp)
      · rw [List.mem_singleton.mp hx]
        exact LF0_n l1 n2 (by simp)
set_option maxHeartbeats 16000000 in
theorem i_X6 {σ : xS} {t : Nat} (ht24 : 24 ≤ t) (et : σ.1 t = some (6, (fun _ => (0 : Int32)), (fun _ => (none : Option Nat)))) (hlow : ∀ k, k < 22 → fre σ k) (hS : STc σ) (hG : ∀ q, σ.2.1 q ≠ none → σ.2.2 q = none) : P_X6_init [.inr (some t)] σ 40 900 (mN (fun σ' => ∃ LS sl, CQ σ' LS sl ∧ LS.head? = some t)) := by
  refine e_X6_init t σ 40 900 _ _ et rfl ?_
  generalize hret : (mN (fun σ' => ∃ LS sl, CQ σ' LS sl ∧ LS.head? = some t)) = ret
  simp only [r_X6_init_0, r_X6_init_1]
  refine ⟨fun σ' => σ' = σ, ⟨rfl, rfl, ⟨t, rfl⟩, rfl, rfl⟩, ?_⟩
  intro s0 hs
  subst hs
  have gl : GL s0 [t] := ⟨by simp, fun x hx => by simp at hx; rw [hx]; exact ⟨ht24, fre1 et⟩⟩
  have nA : NF [t] [] s0 s0 := NF_rf _ _ _
  have c8 : (nI 8 : Int32).toNatClampNeg = 8 := nI_clamp (by omega)
  -- row 0
  simp only [r_X6_init_4, r_X6_init_5, r_X6_init_7, r_X6_init_10, c8, xo et, true_and]
  refine ⟨nI_pos (by omega), by omega, by omega, by omega, fun q1 h24 f1 f2 f3 => ?_⟩
  have hq1 : frs s0 q1 := ⟨h24, f1, f2, f3⟩
  have n1 : NF [t] [] s0 (va_up s0.1 t (some (6, (fun _ => (0 : Int32)), (va_up (fun _ => (none : Option Nat)) 0 (some q1)))), s0.2.1, va_up s0.2.2 q1 (some (8, fun _ => (none : Option Nat)))) := NF_tr (NF_w (NF_r hq1 (8, fun _ => (none : Option Nat))) (by simp) (by simp)) (NF_u (σ := (s0.1, s0.2.1, va_up s0.2.2 q1 (some (8, fun _ => (none : Option Nat))))) et _)
  have wq1 : RWQ (va_up s0.1 t (some (6, (fun _ => (0 : Int32)), (va_up (fun _ => (none : Option Nat)) 0 (some q1)))), s0.2.1, va_up s0.2.2 q1 (some (8, fun _ => (none : Option Nat)))) q1 := ⟨_, va_up_self _ _ _⟩
  have et : ((va_up s0.1 t (some (6, (fun _ => (0 : Int32)), (va_up (fun _ => (none : Option Nat)) 0 (some q1)))), s0.2.1, va_up s0.2.2 q1 (some (8, fun _ => (none : Option Nat)))) : xS).1 t = some (6, (fun _ => (0 : Int32)), (va_up (fun _ => (none : Option Nat)) 0 (some q1))) := va_up_self _ _ _
  have gl : GL (va_up s0.1 t (some (6, (fun _ => (0 : Int32)), (va_up (fun _ => (none : Option Nat)) 0 (some q1)))), s0.2.1, va_up s0.2.2 q1 (some (8, fun _ => (none : Option Nat)))) [t, q1] := GL_add gl n1 (by simp) (by simp; exact hq1) (by simp; exact fre3 (va_up_self _ _ _))
  have e1n : ((va_up s0.1 t (some (6, (fun _ => (0 : Int32)), (va_up (fun _ => (none : Option Nat)) 0 (some q1)))), s0.2.1, va_up s0.2.2 q1 (some (8, fun _ => (none : Option Nat)))) : xS).2.1 q1 = none := hq1.2.2.1
  have nA := NF_tr nA n1
  clear n1
  generalize ((va_up s0.1 t (some (6, (fun _ => (0 : Int32)), (va_up (fun _ => (none : Option Nat)) 0 (some q1)))), s0.2.1, va_up s0.2.2 q1 (some (8, fun _ => (none : Option Nat)))) : xS) = s1 at *
  -- row 1
  simp only [r_X6_init_13, r_X6_init_14, r_X6_init_16, r_X6_init_19, c8, xo et, true_and]
  refine ⟨nI_pos (by omega), by omega, by omega, by omega, fun q2 h24 f1 f2 f3 => ?_⟩
  have hq2 : frs s1 q2 := ⟨h24, f1, f2, f3⟩
  have n2 : NF [t] [] s1 (va_up s1.1 t (some (6, (fun _ => (0 : Int32)), (va_up (va_up (fun _ => (none : Option Nat)) 0 (some q1)) 1 (some q2)))), s1.2.1, va_up s1.2.2 q2 (some (8, fun _ => (none : Option Nat)))) := NF_tr (NF_w (NF_r hq2 (8, fun _ => (none : Option Nat))) (by simp) (by simp)) (NF_u (σ := (s1.1, s1.2.1, va_up s1.2.2 q2 (some (8, fun _ => (none : Option Nat))))) et _)
  have wq2 : RWQ (va_up s1.1 t (some (6, (fun _ => (0 : Int32)), (va_up (va_up (fun _ => (none : Option Nat)) 0 (some q1)) 1 (some q2)))), s1.2.1, va_up s1.2.2 q2 (some (8, fun _ => (none : Option Nat)))) q2 := ⟨_, va_up_self _ _ _⟩
  have et : ((va_up s1.1 t (some (6, (fun _ => (0 : Int32)), (va_up (va_up (fun _ => (none : Option Nat)) 0 (some q1)) 1 (some q2)))), s1.2.1, va_up s1.2.2 q2 (some (8, fun _ => (none : Option Nat)))) : xS).1 t = some (6, (fun _ => (0 : Int32)), (va_up (va_up (fun _ => (none : Option Nat)) 0 (some q1)) 1 (some q2))) := va_up_self _ _ _
  have gl : GL (va_up s1.1 t (some (6, (fun _ => (0 : Int32)), (va_up (va_up (fun _ => (none : Option Nat)) 0 (some q1)) 1 (some q2)))), s1.2.1, va_up s1.2.2 q2 (some (8, fun _ => (none : Option Nat)))) [t, q1, q2] := GL_add gl n2 (by simp) (by simp; exact hq2) (by simp; exact fre3 (va_up_self _ _ _))
  have e1n := (n2.1 q1 (RWQ_u wq1)).2.1.trans e1n
  have wq1 := RWQ_n wq1 n2 (by simp)
  have nA := NF_tr nA n2
  clear n2
  generalize ((va_up s1.1 t (some (6, (fun _ => (0 : Int32)), (va_up (va_up (fun _ => (none : Option Nat)) 0 (some q1)) 1 (some q2)))), s1.2.1, va_up s1.2.2 q2 (some (8, fun _ => (none : Option Nat)))) : xS) = s2 at *
  -- row 2
  simp only [r_X6_init_22, r_X6_init_23, r_X6_init_25, r_X6_init_28, c8, xo et, true_and]
  refine ⟨nI_pos (by omega), by omega, by omega, by omega, fun q3 h24 f1 f2 f3 => ?_⟩
  have hq3 : frs s2 q3 := ⟨h24, f1, f2, f3⟩
  have n3 : NF [t] [] s2 (va_up s2.1 t (some (6, (fun _ => (0 : Int32)), (va_up (va_up (va_up (fun _ => (none : Option Nat)) 0 (some q1)) 1 (some q2)) 2 (some q3)))), s2.2.1, va_up s2.2.2 q3 (some (8, fun _ => (none : Option Nat)))) := NF_tr (NF_w (NF_r hq3 (8, fun _ => (none : Option Nat))) (by simp) (by simp)) (NF_u (σ := (s2.1, s2.2.1, va_up s2.2.2 q3 (some (8, fun _ => (none : Option Nat))))) et _)
  have wq3 : RWQ (va_up s2.1 t (some (6, (fun _ => (0 : Int32)), (va_up (va_up (va_up (fun _ => (none : Option Nat)) 0 (some q1)) 1 (some q2)) 2 (some q3)))), s2.2.1, va_up s2.2.2 q3 (some (8, fun _ => (none : Option Nat)))) q3 := ⟨_, va_up_self _ _ _⟩
  have et : ((va_up s2.1 t (some (6, (fun _ => (0 : Int32)), (va_up (va_up (va_up (fun _ => (none : Option Nat)) 0 (some q1)) 1 (some q2)) 2 (some q3)))), s2.2.1, va_up s2.2.2 q3 (some (8, fun _ => (none : Option Nat)))) : xS).1 t = some (6, (fun _ => (0 : Int32)), (va_up (va_up (va_up (fun _ => (none : Option Nat)) 0 (some q1)) 1 (some q2)) 2 (some q3))) := va_up_self _ _ _
  have gl : GL (va_up s2.1 t (some (6, (fun _ => (0 : Int32)), (va_up (va_up (va_up (fun _ => (none : Option Nat)) 0 (some q1)) 1 (some q2)) 2 (some q3)))), s2.2.1, va_up s2.2.2 q3 (some (8, fun _ => (none : Option Nat)))) [t, q1, q2, q3] := GL_add gl n3 (by simp) (by simp; exact hq3) (by simp; exact fre3 (va_up_self _ _ _))
  have e1n := (n3.1 q1 (RWQ_u wq1)).2.1.trans e1n
  have wq1 := RWQ_n wq1 n3 (by simp)
  have wq2 := RWQ_n wq2 n3 (by simp)
  have nA := NF_tr nA n3
  clear n3
  generalize ((va_up s2.1 t (some (6, (fun _ => (0 : Int32)), (va_up (va_up (va_up (fun _ => (none : Option Nat)) 0 (some q1)) 1 (some q2)) 2 (some q3)))), s2.2.1, va_up s2.2.2 q3 (some (8, fun _ => (none : Option Nat)))) : xS) = s3 at *
  -- int 3
  simp only [r_X6_init_31, r_X6_init_32, r_X6_init_33, xo et, true_and]
  have n4 : NF [t] [] s3 (va_up s3.1 t (some (6, (upd (fun _ => (0 : Int32)) 3 (nI 0)), (va_up (va_up (va_up (fun _ => (none : Option Nat)) 0 (some q1)) 1 (some q2)) 2 (some q3)))), s3.2) := NF_u et _
  have gl : GL (va_up s3.1 t (some (6, (upd (fun _ => (0 : Int32)) 3 (nI 0)), (va_up (va_up (va_up (fun _ => (none : Option Nat)) 0 (some q1)) 1 (some q2)) 2 (some q3)))), s3.2) [t, q1, q2, q3] := by have := GL_add (M := []) gl n4 (by simp) (by simp) (by simp); simpa using this
  have e1n := (n4.1 q1 (RWQ_u wq1)).2.1.trans e1n
  have wq1 := RWQ_n wq1 n4 (by simp)
  have wq2 := RWQ_n wq2 n4 (by simp)
  have wq3 := RWQ_n wq3 n4 (by simp)
  have et : ((va_up s3.1 t (some (6, (upd (fun _ => (0 : Int32)) 3 (nI 0)), (va_up (va_up (va_up (fun _ => (none : Option Nat)) 0 (some q1)) 1 (some q2)) 2 (some q3)))), s3.2) : xS).1 t = some (6, (upd (fun _ => (0 : Int32)) 3 (nI 0)), (va_up (va_up (va_up (fun _ => (none : Option Nat)) 0 (some q1)) 1 (some q2)) 2 (some q3))) := va_up_self _ _ _
  have nA := NF_tr nA n4
  clear n4
  generalize ((va_up s3.1 t (some (6, (upd (fun _ => (0 : Int32)) 3 (nI 0)), (va_up (va_up (va_up (fun _ => (none : Option Nat)) 0 (some q1)) 1 (some q2)) 2 (some q3)))), s3.2) : xS) = s4 at *
  -- object 4
  simp only [r_X6_init_36, r_X6_init_37, r_X6_init_40]
  refine ⟨by omega, by omega, fun q4 h24 f1 f2 f3 => ?_⟩
  have hq4 : frs s4 q4 := ⟨h24, f1, f2, f3⟩
  have neq4 : ¬ q4 = t := fun z => fre1 et (by rw [← z]; exact hq4.2)
  have eqq4 : (va_up s4.1 q4 (some (3, (fun _ => (0 : Int32)), (fun _ => (none : Option Nat)))), s4.2).1 q4 = some (3, fun _ => 0, fun _ => none) := va_up_self _ _ _
  have noq4 := NF_o hq4 (3, (fun _ => (0 : Int32)), (fun _ => (none : Option Nat)))
  rw [r_X6_init_41]
  refine ⟨1, 120, _, by omega, by omega, i_X3 eqq4 rfl 1 120 (Nat.le_refl _) (Nat.le_refl _), ?_⟩
  rintro u5 ⟨q5, hr, m1, xq4⟩
  have nd : NF [] [] s4 u5 := NF_drop noq4 hq4.2 m1
  have et : u5.1 t = some (6, (upd (fun _ => (0 : Int32)) 3 (nI 0)), (va_up (va_up (va_up (fun _ => (none : Option Nat)) 0 (some q1)) 1 (some q2)) 2 (some q3))) := by rw [(nd.1 t (fre1 et)).1 (by simp)]; exact et
  rw [r_X6_init_44]
  simp only [xo et, true_and]
  have nu : NF [t] [] u5 (va_up u5.1 t (some (6, (upd (fun _ => (0 : Int32)) 3 (nI 0)), (va_up (va_up (va_up (va_up (fun _ => (none : Option Nat)) 0 (some q1)) 1 (some q2)) 2 (some q3)) 4 (some q4)))), u5.2) := NF_u et _
  have n5 : NF [t] [] s4 (va_up u5.1 t (some (6, (upd (fun _ => (0 : Int32)) 3 (nI 0)), (va_up (va_up (va_up (va_up (fun _ => (none : Option Nat)) 0 (some q1)) 1 (some q2)) 2 (some q3)) 4 (some q4)))), u5.2) := NF_tr (NF_w nd (by simp) (by simp)) nu
  have e1n := (n5.1 q1 (RWQ_u wq1)).2.1.trans e1n
  have wq1 := RWQ_n wq1 n5 (by simp)
  have wq2 := RWQ_n wq2 n5 (by simp)
  have wq3 := RWQ_n wq3 n5 (by simp)
  have xq4 := TXQ_n xq4 nu (by simp; exact neq4)
  have ndM : [q4, q5].Nodup := by simp; exact fun z => fre1 eqq4 (by have := hr.2; rw [← z] at this; exact this)
  have ffM : ∀ x ∈ [q4, q5], frs s4 x := by simp; exact ⟨hq4, NF_fr noq4 hr⟩
  have uuM : ∀ x ∈ [q4, q5], ¬ fre (va_up u5.1 t (some (6, (upd (fun _ => (0 : Int32)) 3 (nI 0)), (va_up (va_up (va_up (va_up (fun _ => (none : Option Nat)) 0 (some q1)) 1 (some q2)) 2 (some q3)) 4 (some q4)))), u5.2) x := by simp; exact TXQ_u xq4
  have gl : GL (va_up u5.1 t (some (6, (upd (fun _ => (0 : Int32)) 3 (nI 0)), (va_up (va_up (va_up (va_up (fun _ => (none : Option Nat)) 0 (some q1)) 1 (some q2)) 2 (some q3)) 4 (some q4)))), u5.2) [t, q1, q2, q3, q4, q5] := GL_add gl n5 ndM ffM uuM
  have et : ((va_up u5.1 t (some (6, (upd (fun _ => (0 : Int32)) 3 (nI 0)), (va_up (va_up (va_up (va_up (fun _ => (none : Option Nat)) 0 (some q1)) 1 (some q2)) 2 (some q3)) 4 (some q4)))), u5.2) : xS).1 t = some (6, (upd (fun _ => (0 : Int32)) 3 (nI 0)), (va_up (va_up (va_up (va_up (fun _ => (none : Option Nat)) 0 (some q1)) 1 (some q2)) 2 (some q3)) 4 (some q4))) := va_up_self _ _ _
  have nA := NF_tr nA n5
  clear n5 nu nd m1 ndM ffM uuM noq4 eqq4 h24 f1 f2 f3
  generalize ((va_up u5.1 t (some (6, (upd (fun _ => (0 : Int32)) 3 (nI 0)), (va_up (va_up (va_up (va_up (fun _ => (none : Option Nat)) 0 (some q1)) 1 (some q2)) 2 (some q3)) 4 (some q4)))), u5.2) : xS) = s5 at *
  -- object 5
  simp only [r_X6_init_47, r_X6_init_48, r_X6_init_51]
  refine ⟨by omega, by omega, fun q6 h24 f1 f2 f3 => ?_⟩
  have hq6 : frs s5 q6 := ⟨h24, f1, f2, f3⟩
  have neq6 : ¬ q6 = t := fun z => fre1 et (by rw [← z]; exact hq6.2)
  have eqq6 : (va_up s5.1 q6 (some (2, (fun _ => (0 : Int32)), (fun _ => (none : Option Nat)))), s5.2).1 q6 = some (2, fun _ => 0, fun _ => none) := va_up_self _ _ _
  have noq6 := NF_o hq6 (2, (fun _ => (0 : Int32)), (fun _ => (none : Option Nat)))
  rw [r_X6_init_52]
  refine ⟨2, 48, _, by omega, by omega, i_X2 eqq6 2 48 (Nat.le_refl _) (Nat.le_refl _), ?_⟩
  rintro u6 ⟨q7, q8, hr, hr2, hrr, m1, xq6⟩
  have nd : NF [] [] s5 u6 := NF_drop noq6 hq6.2 m1
  have et : u6.1 t = some (6, (upd (fun _ => (0 : Int32)) 3 (nI 0)), (va_up (va_up (va_up (va_up (fun _ => (none : Option Nat)) 0 (some q1)) 1 (some q2)) 2 (some q3)) 4 (some q4))) := by rw [(nd.1 t (fre1 et)).1 (by simp)]; exact et
  rw [r_X6_init_55]
  simp only [xo et, true_and]
  have nu : NF [t] [] u6 (va_up u6.1 t (some (6, (upd (fun _ => (0 : Int32)) 3 (nI 0)), (va_up (va_up (va_up (va_up (va_up (fun _ => (none : Option Nat)) 0 (some q1)) 1 (some q2)) 2 (some q3)) 4 (some q4)) 5 (some q6)))), u6.2) := NF_u et _
  have n6 : NF [t] [] s5 (va_up u6.1 t (some (6, (upd (fun _ => (0 : Int32)) 3 (nI 0)), (va_up (va_up (va_up (va_up (va_up (fun _ => (none : Option Nat)) 0 (some q1)) 1 (some q2)) 2 (some q3)) 4 (some q4)) 5 (some q6)))), u6.2) := NF_tr (NF_w nd (by simp) (by simp)) nu
  have e1n := (n6.1 q1 (RWQ_u wq1)).2.1.trans e1n
  have wq1 := RWQ_n wq1 n6 (by simp)
  have wq2 := RWQ_n wq2 n6 (by simp)
  have wq3 := RWQ_n wq3 n6 (by simp)
  have xq4 := TXQ_n xq4 n6 (by simp; exact neq4)
  have xq6 := TBQ_n xq6 nu (by simp; exact neq6) (by simp)
  have ndM : [q6, q7, q8].Nodup := by simp; exact ⟨⟨fun z => fre1 eqq6 (by have := hr.2; rw [← z] at this; exact this), fun z => fre1 eqq6 (by have := hr2.2; rw [← z] at this; exact this)⟩, hrr⟩
  have ffM : ∀ x ∈ [q6, q7, q8], frs s5 x := by simp; exact ⟨hq6, NF_fr noq6 hr, NF_fr noq6 hr2⟩
  have uuM : ∀ x ∈ [q6, q7, q8], ¬ fre (va_up u6.1 t (some (6, (upd (fun _ => (0 : Int32)) 3 (nI 0)), (va_up (va_up (va_up (va_up (va_up (fun _ => (none : Option Nat)) 0 (some q1)) 1 (some q2)) 2 (some q3)) 4 (some q4)) 5 (some q6)))), u6.2) x := by simp; exact TBQ_u xq6
  have gl : GL (va_up u6.1 t (some (6, (upd (fun _ => (0 : Int32)) 3 (nI 0)), (va_up (va_up (va_up (va_up (va_up (fun _ => (none : Option Nat)) 0 (some q1)) 1 (some q2)) 2 (some q3)) 4 (some q4)) 5 (some q6)))), u6.2) [t, q1, q2, q3, q4, q5, q6, q7, q8] := GL_add gl n6 ndM ffM uuM
  have et : ((va_up u6.1 t (some (6, (upd (fun _ => (0 : Int32)) 3 (nI 0)), (va_up (va_up (va_up (va_up (va_up (fun _ => (none : Option Nat)) 0 (some q1)) 1 (some q2)) 2 (some q3)) 4 (some q4)) 5 (some q6)))), u6.2) : xS).1 t = some (6, (upd (fun _ => (0 : Int32)) 3 (nI 0)), (va_up (va_up (va_up (va_up (va_up (fun _ => (none : Option Nat)) 0 (some q1)) 1 (some q2)) 2 (some q3)) 4 (some q4)) 5 (some q6))) := va_up_self _ _ _
  have nA := NF_tr nA n6
  clear n6 nu nd m1 ndM ffM uuM noq6 eqq6 h24 f1 f2 f3
  generalize ((va_up u6.1 t (some (6, (upd (fun _ => (0 : Int32)) 3 (nI 0)), (va_up (va_up (va_up (va_up (va_up (fun _ => (none : Option Nat)) 0 (some q1)) 1 (some q2)) 2 (some q3)) 4 (some q4)) 5 (some q6)))), u6.2) : xS) = s6 at *
  -- object 6
  simp only [r_X6_init_58, r_X6_init_59, r_X6_init_62]
  refine ⟨by omega, by omega, fun q9 h24 f1 f2 f3 => ?_⟩
  have hq9 : frs s6 q9 := ⟨h24, f1, f2, f3⟩
  have neq9 : ¬ q9 = t := fun z => fre1 et (by rw [← z]; exact hq9.2)
  have eqq9 : (va_up s6.1 q9 (some (1, (fun _ => (0 : Int32)), (fun _ => (none : Option Nat)))), s6.2).1 q9 = some (1, fun _ => 0, fun _ => none) := va_up_self _ _ _
  have noq9 := NF_o hq9 (1, (fun _ => (0 : Int32)), (fun _ => (none : Option Nat)))
  rw [r_X6_init_63]
  refine ⟨1, 120, _, by omega, by omega, i_X1 eqq9 rfl 1 120 (Nat.le_refl _) (Nat.le_refl _), ?_⟩
  rintro u7 ⟨q10, hr, m1, xq9⟩
  have nd : NF [] [] s6 u7 := NF_drop noq9 hq9.2 m1
  have et : u7.1 t = some (6, (upd (fun _ => (0 : Int32)) 3 (nI 0)), (va_up (va_up (va_up (va_up (va_up (fun _ => (none : Option Nat)) 0 (some q1)) 1 (some q2)) 2 (some q3)) 4 (some q4)) 5 (some q6))) := by rw [(nd.1 t (fre1 et)).1 (by simp)]; exact et
  rw [r_X6_init_66]
  simp only [xo et, true_and]
  have nu : NF [t] [] u7 (va_up u7.1 t (some (6, (upd (fun _ => (0 : Int32)) 3 (nI 0)), (va_up (va_up (va_up (va_up (va_up (va_up (fun _ => (none : Option Nat)) 0 (some q1)) 1 (some q2)) 2 (some q3)) 4 (some q4)) 5 (some q6)) 6 (some q9)))), u7.2) := NF_u et _
  have n7 : NF [t] [] s6 (va_up u7.1 t (some (6, (upd (fun _ => (0 : Int32)) 3 (nI 0)), (va_up (va_up (va_up (va_up (va_up (va_up (fun _ => (none : Option Nat)) 0 (some q1)) 1 (some q2)) 2 (some q3)) 4 (some q4)) 5 (some q6)) 6 (some q9)))), u7.2) := NF_tr (NF_w nd (by simp) (by simp)) nu
  have e1n := (n7.1 q1 (RWQ_u wq1)).2.1.trans e1n
  have wq1 := RWQ_n wq1 n7 (by simp)
  have wq2 := RWQ_n wq2 n7 (by simp)
  have wq3 := RWQ_n wq3 n7 (by simp)
  have xq4 := TXQ_n xq4 n7 (by simp; exact neq4)
  have xq6 := TBQ_n xq6 n7 (by simp; exact neq6) (by simp)
  have xq9 := PCQ_n xq9 nu (by simp; exact neq9) (by simp)
  have ndM : [q9, q10].Nodup := by simp; exact fun z => fre1 eqq9 (by have := hr.2; rw [← z] at this; exact this)
  have ffM : ∀ x ∈ [q9, q10], frs s6 x := by simp; exact ⟨hq9, NF_fr noq9 hr⟩
  have uuM : ∀ x ∈ [q9, q10], ¬ fre (va_up u7.1 t (some (6, (upd (fun _ => (0 : Int32)) 3 (nI 0)), (va_up (va_up (va_up (va_up (va_up (va_up (fun _ => (none : Option Nat)) 0 (some q1)) 1 (some q2)) 2 (some q3)) 4 (some q4)) 5 (some q6)) 6 (some q9)))), u7.2) x := by simp; exact PCQ_u xq9
  have gl : GL (va_up u7.1 t (some (6, (upd (fun _ => (0 : Int32)) 3 (nI 0)), (va_up (va_up (va_up (va_up (va_up (va_up (fun _ => (none : Option Nat)) 0 (some q1)) 1 (some q2)) 2 (some q3)) 4 (some q4)) 5 (some q6)) 6 (some q9)))), u7.2) [t, q1, q2, q3, q4, q5, q6, q7, q8, q9, q10] := GL_add gl n7 ndM ffM uuM
  have et : ((va_up u7.1 t (some (6, (upd (fun _ => (0 : Int32)) 3 (nI 0)), (va_up (va_up (va_up (va_up (va_up (va_up (fun _ => (none : Option Nat)) 0 (some q1)) 1 (some q2)) 2 (some q3)) 4 (some q4)) 5 (some q6)) 6 (some q9)))), u7.2) : xS).1 t = some (6, (upd (fun _ => (0 : Int32)) 3 (nI 0)), (va_up (va_up (va_up (va_up (va_up (va_up (fun _ => (none : Option Nat)) 0 (some q1)) 1 (some q2)) 2 (some q3)) 4 (some q4)) 5 (some q6)) 6 (some q9))) := va_up_self _ _ _
  have nA := NF_tr nA n7
  clear n7 nu nd m1 ndM ffM uuM noq9 eqq9 h24 f1 f2 f3
  generalize ((va_up u7.1 t (some (6, (upd (fun _ => (0 : Int32)) 3 (nI 0)), (va_up (va_up (va_up (va_up (va_up (va_up (fun _ => (none : Option Nat)) 0 (some q1)) 1 (some q2)) 2 (some q3)) 4 (some q4)) 5 (some q6)) 6 (some q9)))), u7.2) : xS) = s7 at *
  -- object 7
  simp only [r_X6_init_69, r_X6_init_70, r_X6_init_73]
  refine ⟨by omega, by omega, fun q11 h24 f1 f2 f3 => ?_⟩
  have hq11 : frs s7 q11 := ⟨h24, f1, f2, f3⟩
  have neq11 : ¬ q11 = t := fun z => fre1 et (by rw [← z]; exact hq11.2)
  have eqq11 : (va_up s7.1 q11 (some (5, (fun _ => (0 : Int32)), (fun _ => (none : Option Nat)))), s7.2).1 q11 = some (5, fun _ => 0, fun _ => none) := va_up_self _ _ _
  have noq11 := NF_o hq11 (5, (fun _ => (0 : Int32)), (fun _ => (none : Option Nat)))
  rw [r_X6_init_74]
  refine ⟨5, 250, _, by omega, by omega, i_X5 eqq11 5 250 (Nat.le_refl _) (Nat.le_refl _), ?_⟩
  rintro u8 ⟨q12, q13, q14, q15, q16, hnd5, hr5, m1, xq11, xq13, xq15⟩
  have h5f : ∀ k ∈ [q12, q13, q14, q15, q16], frs s7 k := fun k hk => NF_fr noq11 (hr5 k hk)
  have neq13 : ¬ q13 = t := fun z => fre1 et (by rw [← z]; exact (h5f q13 (by simp)).2)
  have neq15 : ¬ q15 = t := fun z => fre1 et (by rw [← z]; exact (h5f q15 (by simp)).2)
  have nd : NF [] [] s7 u8 := NF_drop noq11 hq11.2 m1
  have et : u8.1 t = some (6, (upd (fun _ => (0 : Int32)) 3 (nI 0)), (va_up (va_up (va_up (va_up (va_up (va_up (fun _ => (none : Option Nat)) 0 (some q1)) 1 (some q2)) 2 (some q3)) 4 (some q4)) 5 (some q6)) 6 (some q9))) := by rw [(nd.1 t (fre1 et)).1 (by simp)]; exact et
  rw [r_X6_init_77]
  simp only [xo et, true_and]
  have nu : NF [t] [] u8 (va_up u8.1 t (some (6, (upd (fun _ => (0 : Int32)) 3 (nI 0)), (va_up (va_up (va_up (va_up (va_up (va_up (va_up (fun _ => (none : Option Nat)) 0 (some q1)) 1 (some q2)) 2 (some q3)) 4 (some q4)) 5 (some q6)) 6 (some q9)) 7 (some q11)))), u8.2) := NF_u et _
  have n8 : NF [t] [] s7 (va_up u8.1 t (some (6, (upd (fun _ => (0 : Int32)) 3 (nI 0)), (va_up (va_up (va_up (va_up (va_up (va_up (va_up (fun _ => (none : Option Nat)) 0 (some q1)) 1 (some q2)) 2 (some q3)) 4 (some q4)) 5 (some q6)) 6 (some q9)) 7 (some q11)))), u8.2) := NF_tr (NF_w nd (by simp) (by simp)) nu
  have e1n := (n8.1 q1 (RWQ_u wq1)).2.1.trans e1n
  have wq1 := RWQ_n wq1 n8 (by simp)
  have wq2 := RWQ_n wq2 n8 (by simp)
  have wq3 := RWQ_n wq3 n8 (by simp)
  have xq4 := TXQ_n xq4 n8 (by simp; exact neq4)
  have xq6 := TBQ_n xq6 n8 (by simp; exact neq6) (by simp)
  have xq9 := PCQ_n xq9 n8 (by simp; exact neq9) (by simp)
  have xq11 := WVQ_n xq11 nu (by simp; exact neq11)
  have xq13 := PCQ_n xq13 nu (by simp; exact neq13) (by simp)
  have xq15 := TXQ_n xq15 nu (by simp; exact neq15)
  have ndM : [q11, q12, q13, q14, q15, q16].Nodup := List.nodup_cons.mpr ⟨fun z => fre1 eqq11 (hr5 _ z).2, hnd5⟩
  have ffM : ∀ x ∈ [q11, q12, q13, q14, q15, q16], frs s7 x := List.forall_mem_cons.mpr ⟨hq11, h5f⟩
  have uuM : ∀ x ∈ [q11, q12, q13, q14, q15, q16], ¬ fre (va_up u8.1 t (some (6, (upd (fun _ => (0 : Int32)) 3 (nI 0)), (va_up (va_up (va_up (va_up (va_up (va_up (va_up (fun _ => (none : Option Nat)) 0 (some q1)) 1 (some q2)) 2 (some q3)) 4 (some q4)) 5 (some q6)) 6 (some q9)) 7 (some q11)))), u8.2) x := by simp; exact ⟨(WVQ_u xq11).1, (WVQ_u xq11).2, (PCQ_u xq13).1, (PCQ_u xq13).2, (TXQ_u xq15).1, (TXQ_u xq15).2⟩
  have gl : GL (va_up u8.1 t (some (6, (upd (fun _ => (0 : Int32)) 3 (nI 0)), (va_up (va_up (va_up (va_up (va_up (va_up (va_up (fun _ => (none : Option Nat)) 0 (some q1)) 1 (some q2)) 2 (some q3)) 4 (some q4)) 5 (some q6)) 6 (some q9)) 7 (some q11)))), u8.2) [t, q1, q2, q3, q4, q5, q6, q7, q8, q9, q10, q11, q12, q13, q14, q15, q16] := GL_add gl n8 ndM ffM uuM
  have et : ((va_up u8.1 t (some (6, (upd (fun _ => (0 : Int32)) 3 (nI 0)), (va_up (va_up (va_up (va_up (va_up (va_up (va_up (fun _ => (none : Option Nat)) 0 (some q1)) 1 (some q2)) 2 (some q3)) 4 (some q4)) 5 (some q6)) 6 (some q9)) 7 (some q11)))), u8.2) : xS).1 t = some (6, (upd (fun _ => (0 : Int32)) 3 (nI 0)), (va_up (va_up (va_up (va_up (va_up (va_up (va_up (fun _ => (none : Option Nat)) 0 (some q1)) 1 (some q2)) 2 (some q3)) 4 (some q4)) 5 (some q6)) 6 (some q9)) 7 (some q11))) := va_up_self _ _ _
  have nA := NF_tr nA n8
  clear n8 nu nd m1 ndM ffM uuM noq11 eqq11 h24 f1 f2 f3
  generalize ((va_up u8.1 t (some (6, (upd (fun _ => (0 : Int32)) 3 (nI 0)), (va_up (va_up (va_up (va_up (va_up (va_up (va_up (fun _ => (none : Option Nat)) 0 (some q1)) 1 (some q2)) 2 (some q3)) 4 (some q4)) 5 (some q6)) 6 (some q9)) 7 (some q11)))), u8.2) : xS) = s8 at *
  -- object 8
  simp only [r_X6_init_80, r_X6_init_81, r_X6_init_84]
  refine ⟨by omega, by omega, fun q17 h24 f1 f2 f3 => ?_⟩
  have hq17 : frs s8 q17 := ⟨h24, f1, f2, f3⟩
  have neq17 : ¬ q17 = t := fun z => fre1 et (by rw [← z]; exact hq17.2)
  have eqq17 : (va_up s8.1 q17 (some (4, (fun _ => (0 : Int32)), (fun _ => (none : Option Nat)))), s8.2).1 q17 = some (4, fun _ => 0, fun _ => none) := va_up_self _ _ _
  have noq17 := NF_o hq17 (4, (fun _ => (0 : Int32)), (fun _ => (none : Option Nat)))
  rw [r_X6_init_85]
  refine ⟨_, i_X4 eqq17, ?_⟩
  rintro u9 ⟨m1, xq17⟩
  have nd : NF [] [] s8 u9 := NF_drop noq17 hq17.2 m1
  have et : u9.1 t = some (6, (upd (fun _ => (0 : Int32)) 3 (nI 0)), (va_up (va_up (va_up (va_up (va_up (va_up (va_up (fun _ => (none : Option Nat)) 0 (some q1)) 1 (some q2)) 2 (some q3)) 4 (some q4)) 5 (some q6)) 6 (some q9)) 7 (some q11))) := by rw [(nd.1 t (fre1 et)).1 (by simp)]; exact et
  rw [r_X6_init_88]
  simp only [xo et, true_and]
  have nu : NF [t] [] u9 (va_up u9.1 t (some (6, (upd (fun _ => (0 : Int32)) 3 (nI 0)), (va_up (va_up (va_up (va_up (va_up (va_up (va_up (va_up (fun _ => (none : Option Nat)) 0 (some q1)) 1 (some q2)) 2 (some q3)) 4 (some q4)) 5 (some q6)) 6 (some q9)) 7 (some q11)) 8 (some q17)))), u9.2) := NF_u et _
  have n9 : NF [t] [] s8 (va_up u9.1 t (some (6, (upd (fun _ => (0 : Int32)) 3 (nI 0)), (va_up (va_up (va_up (va_up (va_up (va_up (va_up (va_up (fun _ => (none : Option Nat)) 0 (some q1)) 1 (some q2)) 2 (some q3)) 4 (some q4)) 5 (some q6)) 6 (some q9)) 7 (some q11)) 8 (some q17)))), u9.2) := NF_tr (NF_w nd (by simp) (by simp)) nu
  have e1n := (n9.1 q1 (RWQ_u wq1)).2.1.trans e1n
  have wq1 := RWQ_n wq1 n9 (by simp)
  have wq2 := RWQ_n wq2 n9 (by simp)
  have wq3 := RWQ_n wq3 n9 (by simp)
  have xq4 := TXQ_n xq4 n9 (by simp; exact neq4)
  have xq6 := TBQ_n xq6 n9 (by simp; exact neq6) (by simp)
  have xq9 := PCQ_n xq9 n9 (by simp; exact neq9) (by simp)
  have xq11 := WVQ_n xq11 n9 (by simp; exact neq11)
  have xq13 := PCQ_n xq13 n9 (by simp; exact neq13) (by simp)
  have xq15 := TXQ_n xq15 n9 (by simp; exact neq15)
  have xq17 := WKQ_n xq17 nu (by simp; exact neq17)
  have ndM : [q17].Nodup := by simp
  have ffM : ∀ x ∈ [q17], frs s8 x := by simp; exact hq17
  have uuM : ∀ x ∈ [q17], ¬ fre (va_up u9.1 t (some (6, (upd (fun _ => (0 : Int32)) 3 (nI 0)), (va_up (va_up (va_up (va_up (va_up (va_up (va_up (va_up (fun _ => (none : Option Nat)) 0 (some q1)) 1 (some q2)) 2 (some q3)) 4 (some q4)) 5 (some q6)) 6 (some q9)) 7 (some q11)) 8 (some q17)))), u9.2) x := by simp; exact WKQ_u xq17
  have gl : GL (va_up u9.1 t (some (6, (upd (fun _ => (0 : Int32)) 3 (nI 0)), (va_up (va_up (va_up (va_up (va_up (va_up (va_up (va_up (fun _ => (none : Option Nat)) 0 (some q1)) 1 (some q2)) 2 (some q3)) 4 (some q4)) 5 (some q6)) 6 (some q9)) 7 (some q11)) 8 (some q17)))), u9.2) [t, q1, q2, q3, q4, q5, q6, q7, q8, q9, q10, q11, q12, q13, q14, q15, q16, q17] := GL_add gl n9 ndM ffM uuM
  have et : ((va_up u9.1 t (some (6, (upd (fun _ => (0 : Int32)) 3 (nI 0)), (va_up (va_up (va_up (va_up (va_up (va_up (va_up (va_up (fun _ => (none : Option Nat)) 0 (some q1)) 1 (some q2)) 2 (some q3)) 4 (some q4)) 5 (some q6)) 6 (some q9)) 7 (some q11)) 8 (some q17)))), u9.2) : xS).1 t = some (6, (upd (fun _ => (0 : Int32)) 3 (nI 0)), (va_up (va_up (va_up (va_up (va_up (va_up (va_up (va_up (fun _ => (none : Option Nat)) 0 (some q1)) 1 (some q2)) 2 (some q3)) 4 (some q4)) 5 (some q6)) 6 (some q9)) 7 (some q11)) 8 (some q17))) := va_up_self _ _ _
  have nA := NF_tr nA n9
  clear n9 nu nd m1 ndM ffM uuM noq17 eqq17 h24 f1 f2 f3
  generalize ((va_up u9.1 t (some (6, (upd (fun _ => (0 : Int32)) 3 (nI 0)), (va_up (va_up (va_up (va_up (va_up (va_up (va_up (va_up (fun _ => (none : Option Nat)) 0 (some q1)) 1 (some q2)) 2 (some q3)) 4 (some q4)) 5 (some q6)) 6 (some q9)) 7 (some q11)) 8 (some q17)))), u9.2) : xS) = s9 at *
  -- object 9
  simp only [r_X6_init_91, r_X6_init_92, r_X6_init_95]
  refine ⟨by omega, by omega, fun q18 h24 f1 f2 f3 => ?_⟩
  have hq18 : frs s9 q18 := ⟨h24, f1, f2, f3⟩
  have neq18 : ¬ q18 = t := fun z => fre1 et (by rw [← z]; exact hq18.2)
  have eqq18 : (va_up s9.1 q18 (some (3, (fun _ => (0 : Int32)), (fun _ => (none : Option Nat)))), s9.2).1 q18 = some (3, fun _ => 0, fun _ => none) := va_up_self _ _ _
  have noq18 := NF_o hq18 (3, (fun _ => (0 : Int32)), (fun _ => (none : Option Nat)))
  rw [r_X6_init_96]
  refine ⟨1, 120, _, by omega, by omega, i_X3 eqq18 rfl 1 120 (Nat.le_refl _) (Nat.le_refl _), ?_⟩
  rintro u10 ⟨q19, hr, m1, xq18⟩
  have nd : NF [] [] s9 u10 := NF_drop noq18 hq18.2 m1
  have et : u10.1 t = some (6, (upd (fun _ => (0 : Int32)) 3 (nI 0)), (va_up (va_up (va_up (va_up (va_up (va_up (va_up (va_up (fun _ => (none : Option Nat)) 0 (some q1)) 1 (some q2)) 2 (some q3)) 4 (some q4)) 5 (some q6)) 6 (some q9)) 7 (some q11)) 8 (some q17))) := by rw [(nd.1 t (fre1 et)).1 (by simp)]; exact et
  rw [r_X6_init_99]
  simp only [xo et, true_and]
  have nu : NF [t] [] u10 (va_up u10.1 t (some (6, (upd (fun _ => (0 : Int32)) 3 (nI 0)), (va_up (va_up (va_up (va_up (va_up (va_up (va_up (va_up (va_up (fun _ => (none : Option Nat)) 0 (some q1)) 1 (some q2)) 2 (some q3)) 4 (some q4)) 5 (some q6)) 6 (some q9)) 7 (some q11)) 8 (some q17)) 9 (some q18)))), u10.2) := NF_u et _
  have n10 : NF [t] [] s9 (va_up u10.1 t (some (6, (upd (fun _ => (0 : Int32)) 3 (nI 0)), (va_up (va_up (va_up (va_up (va_up (va_up (va_up (va_up (va_up (fun _ => (none : Option Nat)) 0 (some q1)) 1 (some q2)) 2 (some q3)) 4 (some q4)) 5 (some q6)) 6 (some q9)) 7 (some q11)) 8 (some q17)) 9 (some q18)))), u10.2) := NF_tr (NF_w nd (by simp) (by simp)) nu
  have e1n := (n10.1 q1 (RWQ_u wq1)).2.1.trans e1n
  have wq1 := RWQ_n wq1 n10 (by simp)
  have wq2 := RWQ_n wq2 n10 (by simp)
  have wq3 := RWQ_n wq3 n10 (by simp)
  have xq4 := TXQ_n xq4 n10 (by simp; exact neq4)
  have xq6 := TBQ_n xq6 n10 (by simp; exact neq6) (by simp)
  have xq9 := PCQ_n xq9 n10 (by simp; exact neq9) (by simp)
  have xq11 := WVQ_n xq11 n10 (by simp; exact neq11)
  have xq13 := PCQ_n xq13 n10 (by simp; exact neq13) (by simp)
  have xq15 := TXQ_n xq15 n10 (by simp; exact neq15)
  have xq17 := WKQ_n xq17 n10 (by simp; exact neq17)
  have xq18 := TXQ_n xq18 nu (by simp; exact neq18)
  have ndM : [q18, q19].Nodup := by simp; exact fun z => fre1 eqq18 (by have := hr.2; rw [← z] at this; exact this)
  have ffM : ∀ x ∈ [q18, q19], frs s9 x := by simp; exact ⟨hq18, NF_fr noq18 hr⟩
  have uuM : ∀ x ∈ [q18, q19], ¬ fre (va_up u10.1 t (some (6, (upd (fun _ => (0 : Int32)) 3 (nI 0)), (va_up (va_up (va_up (va_up (va_up (va_up (va_up (va_up (va_up (fun _ => (none : Option Nat)) 0 (some q1)) 1 (some q2)) 2 (some q3)) 4 (some q4)) 5 (some q6)) 6 (some q9)) 7 (some q11)) 8 (some q17)) 9 (some q18)))), u10.2) x := by simp; exact TXQ_u xq18
  have gl : GL (va_up u10.1 t (some (6, (upd (fun _ => (0 : Int32)) 3 (nI 0)), (va_up (va_up (va_up (va_up (va_up (va_up (va_up (va_up (va_up (fun _ => (none : Option Nat)) 0 (some q1)) 1 (some q2)) 2 (some q3)) 4 (some q4)) 5 (some q6)) 6 (some q9)) 7 (some q11)) 8 (some q17)) 9 (some q18)))), u10.2) [t, q1, q2, q3, q4, q5, q6, q7, q8, q9, q10, q11, q12, q13, q14, q15, q16, q17, q18, q19] := GL_add gl n10 ndM ffM uuM
  have et : ((va_up u10.1 t (some (6, (upd (fun _ => (0 : Int32)) 3 (nI 0)), (va_up (va_up (va_up (va_up (va_up (va_up (va_up (va_up (va_up (fun _ => (none : Option Nat)) 0 (some q1)) 1 (some q2)) 2 (some q3)) 4 (some q4)) 5 (some q6)) 6 (some q9)) 7 (some q11)) 8 (some q17)) 9 (some q18)))), u10.2) : xS).1 t = some (6, (upd (fun _ => (0 : Int32)) 3 (nI 0)), (va_up (va_up (va_up (va_up (va_up (va_up (va_up (va_up (va_up (fun _ => (none : Option Nat)) 0 (some q1)) 1 (some q2)) 2 (some q3)) 4 (some q4)) 5 (some q6)) 6 (some q9)) 7 (some q11)) 8 (some q17)) 9 (some q18))) := va_up_self _ _ _
  have nA := NF_tr nA n10
  clear n10 nu nd m1 ndM ffM uuM noq18 eqq18 h24 f1 f2 f3
  generalize ((va_up u10.1 t (some (6, (upd (fun _ => (0 : Int32)) 3 (nI 0)), (va_up (va_up (va_up (va_up (va_up (va_up (va_up (va_up (va_up (fun _ => (none : Option Nat)) 0 (some q1)) 1 (some q2)) 2 (some q3)) 4 (some q4)) 5 (some q6)) 6 (some q9)) 7 (some q11)) 8 (some q17)) 9 (some q18)))), u10.2) : xS) = s10 at *
  -- object 10
  simp only [r_X6_init_102, r_X6_init_103, r_X6_init_106]
  refine ⟨by omega, by omega, fun q20 h24 f1 f2 f3 => ?_⟩
  have hq20 : frs s10 q20 := ⟨h24, f1, f2, f3⟩
  have neq20 : ¬ q20 = t := fun z => fre1 et (by rw [← z]; exact hq20.2)
  have eqq20 : (va_up s10.1 q20 (some (3, (fun _ => (0 : Int32)), (fun _ => (none : Option Nat)))), s10.2).1 q20 = some (3, fun _ => 0, fun _ => none) := va_up_self _ _ _
  have noq20 := NF_o hq20 (3, (fun _ => (0 : Int32)), (fun _ => (none : Option Nat)))
  rw [r_X6_init_107]
  refine ⟨1, 120, _, by omega, by omega, i_X3 eqq20 rfl 1 120 (Nat.le_refl _) (Nat.le_refl _), ?_⟩
  rintro u11 ⟨q21, hr, m1, xq20⟩
  have nd : NF [] [] s10 u11 := NF_drop noq20 hq20.2 m1
  have et : u11.1 t = some (6, (upd (fun _ => (0 : Int32)) 3 (nI 0)), (va_up (va_up (va_up (va_up (va_up (va_up (va_up (va_up (va_up (fun _ => (none : Option Nat)) 0 (some q1)) 1 (some q2)) 2 (some q3)) 4 (some q4)) 5 (some q6)) 6 (some q9)) 7 (some q11)) 8 (some q17)) 9 (some q18))) := by rw [(nd.1 t (fre1 et)).1 (by simp)]; exact et
  rw [r_X6_init_110]
  simp only [xo et, true_and]
  have nu : NF [t] [] u11 (va_up u11.1 t (some (6, (upd (fun _ => (0 : Int32)) 3 (nI 0)), (va_up (va_up (va_up (va_up (va_up (va_up (va_up (va_up (va_up (va_up (fun _ => (none : Option Nat)) 0 (some q1)) 1 (some q2)) 2 (some q3)) 4 (some q4)) 5 (some q6)) 6 (some q9)) 7 (some q11)) 8 (some q17)) 9 (some q18)) 10 (some q20)))), u11.2) := NF_u et _
  have n11 : NF [t] [] s10 (va_up u11.1 t (some (6, (upd (fun _ => (0 : Int32)) 3 (nI 0)), (va_up (va_up (va_up (va_up (va_up (va_up (va_up (va_up (va_up (va_up (fun _ => (none : Option Nat)) 0 (some q1)) 1 (some q2)) 2 (some q3)) 4 (some q4)) 5 (some q6)) 6 (some q9)) 7 (some q11)) 8 (some q17)) 9 (some q18)) 10 (some q20)))), u11.2) := NF_tr (NF_w nd (by simp) (by simp)) nu
  have e1n := (n11.1 q1 (RWQ_u wq1)).2.1.trans e1n
  have wq1 := RWQ_n wq1 n11 (by simp)
  have wq2 := RWQ_n wq2 n11 (by simp)
  have wq3 := RWQ_n wq3 n11 (by simp)
  have xq4 := TXQ_n xq4 n11 (by simp; exact neq4)
  have xq6 := TBQ_n xq6 n11 (by simp; exact neq6) (by simp)
  have xq9 := PCQ_n xq9 n11 (by simp; exact neq9) (by simp)
  have xq11 := WVQ_n xq11 n11 (by simp; exact neq11)
  have xq13 := PCQ_n xq13 n11 (by simp; exact neq13) (by simp)
  have xq15 := TXQ_n xq15 n11 (by simp; exact neq15)
  have xq17 := WKQ_n xq17 n11 (by simp; exact neq17)
  have xq18 := TXQ_n xq18 n11 (by simp; exact neq18)
  have xq20 := TXQ_n xq20 nu (by simp; exact neq20)
  have ndM : [q20, q21].Nodup := by simp; exact fun z => fre1 eqq20 (by have := hr.2; rw [← z] at this; exact this)
  have ffM : ∀ x ∈ [q20, q21], frs s10 x := by simp; exact ⟨hq20, NF_fr noq20 hr⟩
  have uuM : ∀ x ∈ [q20, q21], ¬ fre (va_up u11.1 t (some (6, (upd (fun _ => (0 : Int32)) 3 (nI 0)), (va_up (va_up (va_up (va_up (va_up (va_up (va_up (va_up (va_up (va_up (fun _ => (none : Option Nat)) 0 (some q1)) 1 (some q2)) 2 (some q3)) 4 (some q4)) 5 (some q6)) 6 (some q9)) 7 (some q11)) 8 (some q17)) 9 (some q18)) 10 (some q20)))), u11.2) x := by simp; exact TXQ_u xq20
  have gl : GL (va_up u11.1 t (some (6, (upd (fun _ => (0 : Int32)) 3 (nI 0)), (va_up (va_up (va_up (va_up (va_up (va_up (va_up (va_up (va_up (va_up (fun _ => (none : Option Nat)) 0 (some q1)) 1 (some q2)) 2 (some q3)) 4 (some q4)) 5 (some q6)) 6 (some q9)) 7 (some q11)) 8 (some q17)) 9 (some q18)) 10 (some q20)))), u11.2) [t, q1, q2, q3, q4, q5, q6, q7, q8, q9, q10, q11, q12, q13, q14, q15, q16, q17, q18, q19, q20, q21] := GL_add gl n11 ndM ffM uuM
  have et : ((va_up u11.1 t (some (6, (upd (fun _ => (0 : Int32)) 3 (nI 0)), (va_up (va_up (va_up (va_up (va_up (va_up (va_up (va_up (va_up (va_up (fun _ => (none : Option Nat)) 0 (some q1)) 1 (some q2)) 2 (some q3)) 4 (some q4)) 5 (some q6)) 6 (some q9)) 7 (some q11)) 8 (some q17)) 9 (some q18)) 10 (some q20)))), u11.2) : xS).1 t = some (6, (upd (fun _ => (0 : Int32)) 3 (nI 0)), (va_up (va_up (va_up (va_up (va_up (va_up (va_up (va_up (va_up (va_up (fun _ => (none : Option Nat)) 0 (some q1)) 1 (some q2)) 2 (some q3)) 4 (some q4)) 5 (some q6)) 6 (some q9)) 7 (some q11)) 8 (some q17)) 9 (some q18)) 10 (some q20))) := va_up_self _ _ _
  have nA := NF_tr nA n11
  clear n11 nu nd m1 ndM ffM uuM noq20 eqq20 h24 f1 f2 f3
  generalize ((va_up u11.1 t (some (6, (upd (fun _ => (0 : Int32)) 3 (nI 0)), (va_up (va_up (va_up (va_up (va_up (va_up (va_up (va_up (va_up (va_up (fun _ => (none : Option Nat)) 0 (some q1)) 1 (some q2)) 2 (some q3)) 4 (some q4)) 5 (some q6)) 6 (some q9)) 7 (some q11)) 8 (some q17)) 9 (some q18)) 10 (some q20)))), u11.2) : xS) = s11 at *
  simp only [r_X6_init_113, r_X6_init_114]
  obtain ⟨g0, e1⟩ := id wq1
  have e1' : s11.2.1 q1 = none := e1n
  have q24 : 24 ≤ q1 := (gl.2 q1 (by simp)).1
  have fr0 : (va_up (va_up (va_up (va_up (va_up (va_up (va_up (va_up (va_up (va_up (fun _ => (none : Option Nat)) 0 (some q1)) 1 (some q2)) 2 (some q3)) 4 (some q4)) 5 (some q6)) 6 (some q9)) 7 (some q11)) 8 (some q17)) 9 (some q18)) 10 (some q20)) 0 = some q1 := by rw [va_up_ne _ _ (by decide), va_up_ne _ _ (by decide), va_up_ne _ _ (by decide), va_up_ne _ _ (by decide), va_up_ne _ _ (by decide), va_up_ne _ _ (by decide), va_up_ne _ _ (by decide), va_up_ne _ _ (by decide), va_up_ne _ _ (by decide), va_up_self]
  have fr1 : (va_up (va_up (va_up (va_up (va_up (va_up (va_up (va_up (va_up (va_up (fun _ => (none : Option Nat)) 0 (some q1)) 1 (some q2)) 2 (some q3)) 4 (some q4)) 5 (some q6)) 6 (some q9)) 7 (some q11)) 8 (some q17)) 9 (some q18)) 10 (some q20)) 1 = some q2 := by rw [va_up_ne _ _ (by decide), va_up_ne _ _ (by decide), va_up_ne _ _ (by decide), va_up_ne _ _ (by decide), va_up_ne _ _ (by decide), va_up_ne _ _ (by decide), va_up_ne _ _ (by decide), va_up_ne _ _ (by decide), va_up_self]
  have fr2 : (va_up (va_up (va_up (va_up (va_up (va_up (va_up (va_up (va_up (va_up (fun _ => (none : Option Nat)) 0 (some q1)) 1 (some q2)) 2 (some q3)) 4 (some q4)) 5 (some q6)) 6 (some q9)) 7 (some q11)) 8 (some q17)) 9 (some q18)) 10 (some q20)) 2 = some q3 := by rw [va_up_ne _ _ (by decide), va_up_ne _ _ (by decide), va_up_ne _ _ (by decide), va_up_ne _ _ (by decide), va_up_ne _ _ (by decide), va_up_ne _ _ (by decide), va_up_ne _ _ (by decide), va_up_self]
  have fr4 : (va_up (va_up (va_up (va_up (va_up (va_up (va_up (va_up (va_up (va_up (fun _ => (none : Option Nat)) 0 (some q1)) 1 (some q2)) 2 (some q3)) 4 (some q4)) 5 (some q6)) 6 (some q9)) 7 (some q11)) 8 (some q17)) 9 (some q18)) 10 (some q20)) 4 = some q4 := by rw [va_up_ne _ _ (by decide), va_up_ne _ _ (by decide), va_up_ne _ _ (by decide), va_up_ne _ _ (by decide), va_up_ne _ _ (by decide), va_up_ne _ _ (by decide), va_up_self]
  have fr5 : (va_up (va_up (va_up (va_up (va_up (va_up (va_up (va_up (va_up (va_up (fun _ => (none : Option Nat)) 0 (some q1)) 1 (some q2)) 2 (some q3)) 4 (some q4)) 5 (some q6)) 6 (some q9)) 7 (some q11)) 8 (some q17)) 9 (some q18)) 10 (some q20)) 5 = some q6 := by rw [va_up_ne _ _ (by decide), va_up_ne _ _ (by decide), va_up_ne _ _ (by decide), va_up_ne _ _ (by decide), va_up_ne _ _ (by decide), va_up_self]
  have fr6 : (va_up (va_up (va_up (va_up (va_up (va_up (va_up (va_up (va_up (va_up (fun _ => (none : Option Nat)) 0 (some q1)) 1 (some q2)) 2 (some q3)) 4 (some q4)) 5 (some q6)) 6 (some q9)) 7 (some q11)) 8 (some q17)) 9 (some q18)) 10 (some q20)) 6 = some q9 := by rw [va_up_ne _ _ (by decide), va_up_ne _ _ (by decide), va_up_ne _ _ (by decide), va_up_ne _ _ (by decide), va_up_self]
  have fr7 : (va_up (va_up (va_up (va_up (va_up (va_up (va_up (va_up (va_up (va_up (fun _ => (none : Option Nat)) 0 (some q1)) 1 (some q2)) 2 (some q3)) 4 (some q4)) 5 (some q6)) 6 (some q9)) 7 (some q11)) 8 (some q17)) 9 (some q18)) 10 (some q20)) 7 = some q11 := by rw [va_up_ne _ _ (by decide), va_up_ne _ _ (by decide), va_up_ne _ _ (by decide), va_up_self]
  have fr8 : (va_up (va_up (va_up (va_up (va_up (va_up (va_up (va_up (va_up (va_up (fun _ => (none : Option Nat)) 0 (some q1)) 1 (some q2)) 2 (some q3)) 4 (some q4)) 5 (some q6)) 6 (some q9)) 7 (some q11)) 8 (some q17)) 9 (some q18)) 10 (some q20)) 8 = some q17 := by rw [va_up_ne _ _ (by decide), va_up_ne _ _ (by decide), va_up_self]
  have fr9 : (va_up (va_up (va_up (va_up (va_up (va_up (va_up (va_up (va_up (va_up (fun _ => (none : Option Nat)) 0 (some q1)) 1 (some q2)) 2 (some q3)) 4 (some q4)) 5 (some q6)) 6 (some q9)) 7 (some q11)) 8 (some q17)) 9 (some q18)) 10 (some q20)) 9 = some q18 := by rw [va_up_ne _ _ (by decide), va_up_self]
  have fr10 : (va_up (va_up (va_up (va_up (va_up (va_up (va_up (va_up (va_up (va_up (fun _ => (none : Option Nat)) 0 (some q1)) 1 (some q2)) 2 (some q3)) 4 (some q4)) 5 (some q6)) 6 (some q9)) 7 (some q11)) 8 (some q17)) 9 (some q18)) 10 (some q20)) 10 = some q20 := by rw [va_up_self]
  have fi3 : (upd (fun _ => (0 : Int32)) 3 (nI 0)) 3 = nI 0 := pk_us
  generalize (va_up (va_up (va_up (va_up (va_up (va_up (va_up (va_up (va_up (va_up (fun _ => (none : Option Nat)) 0 (some q1)) 1 (some q2)) 2 (some q3)) 4 (some q4)) 5 (some q6)) 6 (some q9)) 7 (some q11)) 8 (some q17)) 9 (some q18)) 10 (some q20)) = FR at *
  generalize (upd (fun _ => (0 : Int32)) 3 (nI 0)) = FI at *
  refine c_loop (ret := ret) gl (by simp) et fr0 e1 e1' ⟨by omega, by omega⟩ ?_ (0, [], g0, s11, _, _) ⟨by dsimp only; omega, rfl, NF_rf _ _ _, e1, AP_nil _, List.nodup_nil, fun c hc => by simp at hc, by dsimp only; omega, by dsimp only; omega⟩
  intro s sl g k1 k2 k3 k4 k5 k6
  subst hret
  rw [mN_e]
  have nr : ∀ {r : Nat}, r ∈ [t, q1, q2, q3, q4, q5, q6, q7, q8, q9, q10, q11, q12, q13, q14, q15, q16, q17, q18, q19, q20, q21] → r ≠ q1 → True := fun _ _ => trivial
  have ndl := gl.1
  have nq : ∀ x ∈ [q2, q3, q4, q5, q6, q7, q8, q9, q10, q11, q12, q13, q14, q15, q16, q17, q18, q19, q20, q21], ¬ x = q1 := fun x hx z => by
    subst z
    have h2 := List.nodup_cons.mp (List.nodup_cons.mp ndl).2
    exact h2.1 hx
  refine ⟨[t, q1, q2, q3, q4, q5, q6, q7, q8, q9, q10, q11, q12, q13, q14, q15, q16, q17, q18, q19, q20, q21], sl, ⟨t, q1, q2, q3, q4, q5, q6, q7, q8, q9, q10, q11, q12, q13, q14, q15, q16, q17, q18, q19, q20, q21, rfl, ⟨ndl, fun x hx => ⟨(gl.2 x hx).1, (k1.1 x (gl.2 x hx).2).2.2.2⟩⟩, fun k hk => k1.2 k (by omega) (nA.2 k (by omega) (hlow k hk)), STc_n (STc_n hS nA) k1, ⟨FI, FR, ?_, fr0, fr1, fr2, fr4, fr5, fr6, fr7, fr8, fr9, fr10, fi3⟩, ⟨g, k2, k3⟩, k4, k5, fun c hc => ⟨s11, k6 c hc, fun x hx => (gl.2 x hx).2⟩, RWQ_n wq2 k1 (by simp; exact nq q2 (by simp)), RWQ_n wq3 k1 (by simp; exact nq q3 (by simp)), TXQ_n xq4 k1 (by simp), TBQ_n xq6 k1 (by simp) (by simp; exact nq q7 (by simp)), PCQ_n xq9 k1 (by simp) (by simp; exact nq q10 (by simp)), WVQ_n xq11 k1 (by simp), PCQ_n xq13 k1 (by simp) (by simp; exact nq q14 (by simp)), TXQ_n xq15 k1 (by simp), WKQ_n xq17 k1 (by simp), TXQ_n xq18 k1 (by simp), TXQ_n xq20 k1 (by simp)⟩, rfl⟩
  rw [(k1.1 t (fre1 et)).1 (by simp)]; exact et
