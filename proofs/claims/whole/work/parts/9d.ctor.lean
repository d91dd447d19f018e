/-! ===== the class: its constructors ===== -/
def fre (σ : xS) (k : Nat) : Prop := σ.1 k = none ∧ σ.2.1 k = none ∧ σ.2.2 k = none
/-- what was there is as it was, objects ko and rows kr aside -/
def NF (ko kr : List Nat) (σ σ' : xS) : Prop := (∀ k, ¬ fre σ k → (k ∉ ko → σ'.1 k = σ.1 k) ∧ σ'.2.1 k = σ.2.1 k ∧ (k ∉ kr → σ'.2.2 k = σ.2.2 k) ∧ ¬ fre σ' k) ∧ ∀ k, k < 24 → fre σ k → fre σ' k
theorem fre1 {σ : xS} {k : Nat} {o : xO} (h : σ.1 k = some o) : ¬ fre σ k := fun z => by rw [z.1] at h; cases h
theorem fre2 {σ : xS} {k : Nat} {o : Nat × (Nat → Int32)} (h : σ.2.1 k = some o) : ¬ fre σ k := fun z => by rw [z.2.1] at h; cases h
theorem fre3 {σ : xS} {k : Nat} {o : Nat × (Nat → Option Nat)} (h : σ.2.2 k = some o) : ¬ fre σ k := fun z => by rw [z.2.2] at h; cases h
theorem NF_rf (ko kr : List Nat) (σ : xS) : NF ko kr σ σ := ⟨fun _ h => ⟨fun _ => rfl, rfl, fun _ => rfl, h⟩, fun _ _ h => h⟩
theorem NF_tr {ko kr : List Nat} {σ σ1 σ2 : xS} (h1 : NF ko kr σ σ1) (h2 : NF ko kr σ1 σ2) : NF ko kr σ σ2 := by
  refine ⟨fun k hk => ?_, fun k hk h => h2.2 k hk (h1.2 k hk h)⟩
  obtain ⟨a1, a2, a3, a4⟩ := h1.1 k hk
  obtain ⟨b1, b2, b3, b4⟩ := h2.1 k a4
  exact ⟨fun z => (b1 z).trans (a1 z), b2.trans a2, fun z => (b3 z).trans (a3 z), b4⟩
theorem NF_w {ko kr ko' kr' : List Nat} {σ σ1 : xS} (h1 : NF ko kr σ σ1) (h : ∀ k ∈ ko, k ∈ ko') (h' : ∀ k ∈ kr, k ∈ kr') : NF ko' kr' σ σ1 := ⟨fun k hk => ⟨fun z => (h1.1 k hk).1 (fun q => z (h k q)), (h1.1 k hk).2.1, fun z => (h1.1 k hk).2.2.1 (fun q => z (h' k q)), (h1.1 k hk).2.2.2⟩, h1.2⟩
/-- what was new then is no old thing now -/
theorem NF_fr {ko kr : List Nat} {σ σ1 : xS} (h : NF ko kr σ σ1) {q : Nat} (hq : frs σ1 q) : frs σ q := ⟨hq.1, Classical.not_not.mp (fun z => (h.1 q z).2.2.2 hq.2)⟩
theorem NF_drop {q : Nat} {kr : List Nat} {σ σ1 σ2 : xS} (h1 : NF [] kr σ σ1) (hq : fre σ q) (h2 : NF [q] kr σ1 σ2) : NF [] kr σ σ2 := by
  refine ⟨fun k hk => ?_, fun k hk h => h2.2 k hk (h1.2 k hk h)⟩
  have hne : k ≠ q := fun z => hk (by rw [z]; exact hq)
  obtain ⟨a1, a2, a3, a4⟩ := h1.1 k hk
  obtain ⟨b1, b2, b3, b4⟩ := h2.1 k a4
  exact ⟨fun z => (b1 (by simp; exact hne)).trans (a1 z), b2.trans a2, fun z => (b3 z).trans (a3 z), b4⟩
theorem NF_o {σ : xS} {q : Nat} (hq : frs σ q) (v : xO) : NF [] [] σ (va_up σ.1 q (some v), σ.2) := by
  refine ⟨fun k hk => ?_, fun k hk h => ?_⟩
  · have hne : k ≠ q := fun z => hk (by rw [z]; exact hq.2)
    refine ⟨fun _ => va_up_ne _ _ hne, rfl, fun _ => rfl, fun z => hk ⟨?_, z.2⟩⟩
    have := z.1
    rwa [show (va_up σ.1 q (some v), σ.2).1 k = va_up σ.1 q (some v) k from rfl, va_up_ne _ _ hne] at this
  · have := hq.1
    exact ⟨by show va_up σ.1 q (some v) k = none; rw [va_up_ne _ _ (by omega)]; exact h.1, h.2⟩
theorem NF_g {σ : xS} {q : Nat} (hq : frs σ q) (v : Nat × (Nat → Int32)) : NF [] [] σ (σ.1, va_up σ.2.1 q (some v), σ.2.2) := by
  refine ⟨fun k hk => ?_, fun k hk h => ?_⟩
  · have hne : k ≠ q := fun z => hk (by rw [z]; exact hq.2)
    refine ⟨fun _ => rfl, va_up_ne _ _ hne, fun _ => rfl, fun z => hk ⟨z.1, ?_, z.2.2⟩⟩
    have := z.2.1
    rwa [show (σ.1, va_up σ.2.1 q (some v), σ.2.2).2.1 k = va_up σ.2.1 q (some v) k from rfl, va_up_ne _ _ hne] at this
  · have := hq.1
    exact ⟨h.1, by show va_up σ.2.1 q (some v) k = none; rw [va_up_ne _ _ (by omega)]; exact h.2.1, h.2.2⟩
theorem NF_r {σ : xS} {q : Nat} (hq : frs σ q) (v : Nat × (Nat → Option Nat)) : NF [] [] σ (σ.1, σ.2.1, va_up σ.2.2 q (some v)) := by
  refine ⟨fun k hk => ?_, fun k hk h => ?_⟩
  · have hne : k ≠ q := fun z => hk (by rw [z]; exact hq.2)
    refine ⟨fun _ => rfl, rfl, fun _ => va_up_ne _ _ hne, fun z => hk ⟨z.1, z.2.1, ?_⟩⟩
    have := z.2.2
    rwa [show (σ.1, σ.2.1, va_up σ.2.2 q (some v)).2.2 k = va_up σ.2.2 q (some v) k from rfl, va_up_ne _ _ hne] at this
  · have := hq.1
    exact ⟨h.1, h.2.1, by show va_up σ.2.2 q (some v) k = none; rw [va_up_ne _ _ (by omega)]; exact h.2.2⟩
theorem NF_u {σ : xS} {t : Nat} {o : xO} (ht : σ.1 t = some o) (v : xO) : NF [t] [] σ (va_up σ.1 t (some v), σ.2) := by
  refine ⟨fun k hk => ⟨fun z => va_up_ne _ _ (by simpa using z), rfl, fun _ => rfl, fun z => ?_⟩, fun k hk h => ⟨?_, h.2⟩⟩
  · by_cases hkt : k = t
    · subst hkt
      have := z.1
      rw [show (va_up σ.1 k (some v), σ.2).1 k = va_up σ.1 k (some v) k from rfl, va_up_self] at this
      cases this
    · have := z.1
      rw [show (va_up σ.1 t (some v), σ.2).1 k = va_up σ.1 t (some v) k from rfl, va_up_ne _ _ hkt] at this
      exact hk ⟨this, z.2⟩
  · show va_up σ.1 t (some v) k = none
    have hkt : k ≠ t := fun z => fre1 ht (by rw [← z]; exact h)
    rw [va_up_ne _ _ hkt]; exact h.1
def TXQ (σ : xS) (t r : Nat) : Prop := ∃ fi fr g, σ.1 t = some (3, fi, fr) ∧ fr 0 = some r ∧ fi 1 = nI 0 ∧ σ.2.1 r = some (120, g)
def PCQ (σ : xS) (t r : Nat) : Prop := ∃ fi fr g, σ.1 t = some (1, fi, fr) ∧ fr 0 = some r ∧ fi 1 = nI 0 ∧ σ.2.2 r = some (120, g)
def TBQ (σ : xS) (t r r' : Nat) : Prop := ∃ fi fr g h, σ.1 t = some (2, fi, fr) ∧ fr 0 = some r ∧ fr 1 = some r' ∧ fi 2 = nI 0 ∧ fi 3 = nI 0 ∧ σ.2.2 r = some (24, g) ∧ σ.2.1 r' = some (24, h)
def WKQ (σ : xS) (t : Nat) : Prop := ∃ fi fr, σ.1 t = some (4, fi, fr) ∧ fi 0 = nI 0
def WVQ (σ : xS) (t r p x : Nat) : Prop := ∃ fi fr g, σ.1 t = some (5, fi, fr) ∧ fr 0 = some r ∧ fr 1 = some p ∧ fr 2 = some x ∧ fi 3 = nI 0 ∧ fr 4 = none ∧ σ.2.1 r = some (3, g) ∧ g 0 = nI 8 ∧ g 1 = nI 6 ∧ g 2 = nI 4
def RWQ (σ : xS) (r : Nat) : Prop := ∃ g, σ.2.2 r = some (8, g)
theorem TXQ_n {ko kr : List Nat} {σ σ' : xS} {t r : Nat} (h : TXQ σ t r) (hn : NF ko kr σ σ') (ht : t ∉ ko) : TXQ σ' t r := by
  obtain ⟨fi, fr, g, a1, a2, a3, a4⟩ := h
  exact ⟨fi, fr, g, by rw [(hn.1 t (fre1 a1)).1 ht]; exact a1, a2, a3, by rw [(hn.1 r (fre2 a4)).2.1]; exact a4⟩
theorem PCQ_n {ko kr : List Nat} {σ σ' : xS} {t r : Nat} (h : PCQ σ t r) (hn : NF ko kr σ σ') (ht : t ∉ ko) (hr : r ∉ kr) : PCQ σ' t r := by
  obtain ⟨fi, fr, g, a1, a2, a3, a4⟩ := h
  exact ⟨fi, fr, g, by rw [(hn.1 t (fre1 a1)).1 ht]; exact a1, a2, a3, by rw [(hn.1 r (fre3 a4)).2.2.1 hr]; exact a4⟩
theorem TBQ_n {ko kr : List Nat} {σ σ' : xS} {t r r' : Nat} (h : TBQ σ t r r') (hn : NF ko kr σ σ') (ht : t ∉ ko) (hr : r ∉ kr) : TBQ σ' t r r' := by
  obtain ⟨fi, fr, g, hh, a1, a2, a3, a4, a5, a6, a7⟩ := h
  exact ⟨fi, fr, g, hh, by rw [(hn.1 t (fre1 a1)).1 ht]; exact a1, a2, a3, a4, a5, by rw [(hn.1 r (fre3 a6)).2.2.1 hr]; exact a6, by rw [(hn.1 r' (fre2 a7)).2.1]; exact a7⟩
theorem WKQ_n {ko kr : List Nat} {σ σ' : xS} {t : Nat} (h : WKQ σ t) (hn : NF ko kr σ σ') (ht : t ∉ ko) : WKQ σ' t := by
  obtain ⟨fi, fr, a1, a2⟩ := h
  exact ⟨fi, fr, by rw [(hn.1 t (fre1 a1)).1 ht]; exact a1, a2⟩
theorem WVQ_n {ko kr : List Nat} {σ σ' : xS} {t r p x : Nat} (h : WVQ σ t r p x) (hn : NF ko kr σ σ') (ht : t ∉ ko) : WVQ σ' t r p x := by
  obtain ⟨fi, fr, g, a1, a2, a3, a4, a5, a6, a7, a8⟩ := h
  exact ⟨fi, fr, g, by rw [(hn.1 t (fre1 a1)).1 ht]; exact a1, a2, a3, a4, a5, a6, by rw [(hn.1 r (fre2 a7)).2.1]; exact a7, a8⟩
theorem RWQ_n {ko kr : List Nat} {σ σ' : xS} {r : Nat} (h : RWQ σ r) (hn : NF ko kr σ σ') (hr : r ∉ kr) : RWQ σ' r := by
  obtain ⟨g, a1⟩ := h
  exact ⟨g, by rw [(hn.1 r (fre3 a1)).2.2.1 hr]; exact a1⟩
theorem STc_n {ko kr : List Nat} {σ σ' : xS} (h : STc σ) (hn : NF ko kr σ σ') : STc σ' := by
  obtain ⟨g, hh, a1, a2, a3, a4, a5, a6⟩ := h
  exact ⟨g, hh, by rw [(hn.1 22 (fre2 a1)).2.1]; exact a1, a2, a3, a4, by rw [(hn.1 23 (fre2 a5)).2.1]; exact a5, a6⟩
theorem i_X3 {σ : xS} {t : Nat} {fi : Nat → Int32} {fr : Nat → Option Nat} (h : σ.1 t = some (3, fi, fr)) (h1 : fi 1 = nI 0) (a b : Nat) (ha : 1 ≤ a) (hb : 120 ≤ b) : P_X3_init [.inr (some t)] σ a b (mN (fun σ' => ∃ r, frs σ r ∧ NF [t] [] σ σ' ∧ TXQ σ' t r)) := by
  refine e_X3_init t σ a b _ _ h rfl ?_
  simp only [r_X3_init_0, r_X3_init_1]
  refine ⟨fun σ' => σ' = σ, ⟨rfl, rfl, ⟨t, rfl⟩, rfl, rfl⟩, ?_⟩
  intro s hs
  subst hs
  have c : (nI 120 : Int32).toNatClampNeg = 120 := nI_clamp (by omega)
  simp only [r_X3_init_4, r_X3_init_5, r_X3_init_7, r_X3_init_9, r_X3_init_12, c, xo h, true_and, mN_e]
  refine ⟨nI_pos (by omega), ha, hb, by omega, fun r h24 f1 f2 f3 => ?_⟩
  have hr : frs s r := ⟨h24, f1, f2, f3⟩
  have hN := NF_g hr (120, fun _ => 0)
  refine ⟨r, hr, NF_tr (NF_w hN (by simp) (by simp)) (NF_u (σ := (s.1, va_up s.2.1 r (some (120, fun _ => 0)), s.2.2)) h _), fi, va_up fr 0 (some r), fun _ => 0, va_up_self _ _ _, va_up_self _ _ _, h1, va_up_self _ _ _⟩
theorem i_X1 {σ : xS} {t : Nat} {fi : Nat → Int32} {fr : Nat → Option Nat} (h : σ.1 t = some (1, fi, fr)) (h1 : fi 1 = nI 0) (a b : Nat) (ha : 1 ≤ a) (hb : 120 ≤ b) : P_X1_init [.inr (some t)] σ a b (mN (fun σ' => ∃ r, frs σ r ∧ NF [t] [] σ σ' ∧ PCQ σ' t r)) := by
  refine e_X1_init t σ a b _ _ h rfl ?_
  simp only [r_X1_init_0, r_X1_init_1]
  refine ⟨fun σ' => σ' = σ, ⟨rfl, rfl, ⟨t, rfl⟩, rfl, rfl⟩, ?_⟩
  intro s hs
  subst hs
  have c : (nI 120 : Int32).toNatClampNeg = 120 := nI_clamp (by omega)
  simp only [r_X1_init_4, r_X1_init_5, r_X1_init_7, r_X1_init_10, r_X1_init_13, c, xo h, true_and, mN_e]
  refine ⟨nI_pos (by omega), ha, hb, by omega, fun r h24 f1 f2 f3 => ?_⟩
  have hr : frs s r := ⟨h24, f1, f2, f3⟩
  have hN := NF_r hr (120, fun _ => none)
  refine ⟨r, hr, NF_tr (NF_w hN (by simp) (by simp)) (NF_u (σ := (s.1, s.2.1, va_up s.2.2 r (some (120, fun _ => none)))) h _), fi, va_up fr 0 (some r), fun _ => none, va_up_self _ _ _, va_up_self _ _ _, h1, va_up_self _ _ _⟩
theorem i_X4 {σ : xS} {t : Nat} {fi : Nat → Int32} {fr : Nat → Option Nat} (h : σ.1 t = some (4, fi, fr)) : P_X4_init [.inr (some t)] σ 0 0 (mN (fun σ' => NF [t] [] σ σ' ∧ WKQ σ' t)) := by
  refine e_X4_init t σ 0 0 _ _ h rfl ?_
  simp only [r_X4_init_0, r_X4_init_1]
  refine ⟨fun σ' => σ' = σ, ⟨rfl, rfl, ⟨t, rfl⟩, rfl, rfl⟩, ?_⟩
  intro s hs
  subst hs
  simp only [r_X4_init_4, r_X4_init_5, r_X4_init_6, r_X4_init_9, xo h, true_and, mN_e]
  exact ⟨NF_u h _, upd fi 0 (nI 0), fr, va_up_self _ _ _, pk_us⟩
theorem i_X2 {σ : xS} {t : Nat} {fi : Nat → Int32} {fr : Nat → Option Nat} (h : σ.1 t = some (2, fi, fr)) (a b : Nat) (ha : 2 ≤ a) (hb : 48 ≤ b) : P_X2_init [.inr (some t)] σ a b (mN (fun σ' => ∃ r r', frs σ r ∧ frs σ r' ∧ r ≠ r' ∧ NF [t] [] σ σ' ∧ TBQ σ' t r r')) := by
  refine e_X2_init t σ a b _ _ h rfl ?_
  simp only [r_X2_init_0, r_X2_init_1]
  refine ⟨fun σ' => σ' = σ, ⟨rfl, rfl, ⟨t, rfl⟩, rfl, rfl⟩, ?_⟩
  intro s hs
  subst hs
  have c : (nI 24 : Int32).toNatClampNeg = 24 := nI_clamp (by omega)
  simp only [r_X2_init_4, r_X2_init_5, r_X2_init_7, r_X2_init_10, r_X2_init_13, r_X2_init_14, r_X2_init_16, r_X2_init_18, r_X2_init_21, r_X2_init_22, r_X2_init_23, r_X2_init_26, r_X2_init_27, r_X2_init_28, r_X2_init_31, c, xo h, true_and, mN_e, xu, va_up_up]
  refine ⟨nI_pos (by omega), by omega, by omega, by omega, fun r h24 f1 f2 f3 => ⟨nI_pos (by omega), by omega, by omega, by omega, fun r' g24 g1 g2 g3 => ?_⟩⟩
  have hr : frs s r := ⟨h24, f1, f2, f3⟩
  have n1 := NF_r hr (24, fun _ => none)
  have n2 : NF [t] [] s (va_up s.1 t (some (2, fi, va_up fr 0 (some r))), s.2.1, va_up s.2.2 r (some (24, fun _ => none))) := NF_tr (NF_w n1 (by simp) (by simp)) (NF_u (σ := (s.1, s.2.1, va_up s.2.2 r (some (24, fun _ => none)))) h _)
  have hr' : frs (va_up s.1 t (some (2, fi, va_up fr 0 (some r))), s.2.1, va_up s.2.2 r (some (24, fun _ => none))) r' := ⟨g24, g1, g2, g3⟩
  have hne : r ≠ r' := fun z => by
    subst z
    have g3 : va_up s.2.2 r (some (24, fun _ => none)) r = none := g3
    rw [va_up_self] at g3; cases g3
  have n3 := NF_g hr' (24, fun _ => 0)
  have h2 : (va_up s.1 t (some (2, fi, va_up fr 0 (some r))), va_up s.2.1 r' (some (24, fun _ => (0 : Int32))), va_up s.2.2 r (some (24, fun _ => (none : Option Nat)))).1 t = some (2, fi, va_up fr 0 (some r)) := va_up_self _ _ _
  have n4 := NF_u h2 (2, upd (upd fi 2 (nI 0)) 3 (nI 0), va_up (va_up fr 0 (some r)) 1 (some r'))
  refine ⟨r, r', hr, NF_fr n2 hr', hne, ?_, upd (upd fi 2 (nI 0)) 3 (nI 0), va_up (va_up fr 0 (some r)) 1 (some r'), fun _ => none, fun _ => 0, va_up_self _ _ _, ?_, va_up_self _ _ _, ?_, pk_us, va_up_self _ _ _, va_up_self _ _ _⟩
  · have := NF_tr (NF_tr n2 (NF_w n3 (by simp) (by simp))) n4
    simpa only [va_up_up] using this
  · rw [va_up_ne _ _ (by decide), va_up_self]
  · rw [pk_un (by decide), pk_us]
theorem i_X5 {σ : xS} {t : Nat} {fi : Nat → Int32} {fr : Nat → Option Nat} (h : σ.1 t = some (5, fi, fr)) (a b : Nat) (ha : 5 ≤ a) (hb : 250 ≤ b) : P_X5_init [.inr (some t)] σ a b (mN (fun σ' => ∃ r p pr x xr, [r, p, pr, x, xr].Nodup ∧ (∀ k ∈ [r, p, pr, x, xr], frs σ k) ∧ NF [t] [] σ σ' ∧ WVQ σ' t r p x ∧ PCQ σ' p pr ∧ TXQ σ' x xr)) := by
  refine e_X5_init t σ a b _ _ h rfl ?_
  simp only [r_X5_init_0, r_X5_init_1]
  refine ⟨fun σ' => σ' = σ, ⟨rfl, rfl, ⟨t, rfl⟩, rfl, rfl⟩, ?_⟩
  intro s hs
  subst hs
  have c3 : (nI 3 : Int32).toNatClampNeg = 3 := nI_clamp (by omega)
  have c0 : (nI 0 : Int32).toNatClampNeg = 0 := nI_clamp (by omega)
  have c1 : (nI 1 : Int32).toNatClampNeg = 1 := nI_clamp (by omega)
  have c2 : (nI 2 : Int32).toNatClampNeg = 2 := nI_clamp (by omega)
  have v0 : vp_in (nI 0) 3 := (vp_in_i (by omega)).mpr (by omega)
  have v1 : vp_in (nI 1) 3 := (vp_in_i (by omega)).mpr (by omega)
  have v2 : vp_in (nI 2) 3 := (vp_in_i (by omega)).mpr (by omega)
  simp only [r_X5_init_4, r_X5_init_5, r_X5_init_6, r_X5_init_8, r_X5_init_9, r_X5_init_10, r_X5_init_12, r_X5_init_13, r_X5_init_14, r_X5_init_15, r_X5_init_17, r_X5_init_18, r_X5_init_19, r_X5_init_20, r_X5_init_21, r_X5_init_22, r_X5_init_25, r_X5_init_26, c3, c0, c1, c2, v0, v1, v2, xu, va_up_up, xo h, true_and]
  refine ⟨nI_pos (by omega), by omega, by omega, by omega, fun r h24 f1 f2 f3 => ⟨by omega, by omega, by omega, by omega, by omega, by omega, by omega, by omega, fun p g24 g1 g2 g3 => ?_⟩⟩
  have hr : frs s r := ⟨h24, f1, f2, f3⟩
  have n1 := NF_g hr (3, upd (upd (upd (fun _ => (0 : Int32)) 0 (nI 8)) 1 (nI 6)) 2 (nI 4))
  have n2 := NF_tr (NF_w n1 (ko' := [t]) (kr' := []) (by simp) (by simp)) (NF_u (σ := (s.1, va_up s.2.1 r (some (3, upd (upd (upd (fun _ => (0 : Int32)) 0 (nI 8)) 1 (nI 6)) 2 (nI 4))), s.2.2)) h (5, fi, va_up fr 0 (some r)))
  generalize hs1 : ((va_up s.1 t (some (5, fi, va_up fr 0 (some r))), va_up s.2.1 r (some (3, upd (upd (upd (fun _ => (0 : Int32)) 0 (nI 8)) 1 (nI 6)) 2 (nI 4))), s.2.2) : xS) = s1 at n2
  have hp : frs s1 p := by rw [← hs1]; exact ⟨g24, g1, g2, g3⟩
  have et : s1.1 t = some (5, fi, va_up fr 0 (some r)) := by rw [← hs1]; exact va_up_self _ _ _
  have er : s1.2.1 r = some (3, upd (upd (upd (fun _ => (0 : Int32)) 0 (nI 8)) 1 (nI 6)) 2 (nI 4)) := by rw [← hs1]; exact va_up_self _ _ _
  have hfold : ((va_up (va_up s.1 t (some (5, fi, va_up fr 0 (some r)))) p (some (1, fun _ => (0 : Int32), fun _ => (none : Option Nat))), va_up s.2.1 r (some (3, upd (upd (upd (fun _ => (0 : Int32)) 0 (nI 8)) 1 (nI 6)) 2 (nI 4))), s.2.2) : xS) = (va_up s1.1 p (some (1, fun _ => 0, fun _ => none)), s1.2) := by rw [← hs1]
  rw [hfold]
  simp only [r_X5_init_29, r_X5_init_30]
  have ep : (va_up s1.1 p (some (1, (fun _ => (0 : Int32)), (fun _ => (none : Option Nat)))), s1.2).1 p = some (1, fun _ => 0, fun _ => none) := va_up_self _ _ _
  refine ⟨1, 120, _, by omega, by omega, i_X1 ep rfl 1 120 (Nat.le_refl _) (Nat.le_refl _), ?_⟩
  rintro s2 ⟨pr, hpr, m1, m2⟩
  have tp : t ≠ p := fun z => by rw [← z] at hp; rw [hp.2.1] at et; cases et
  have n3 : NF [] [] s1 s2 := NF_drop (NF_o hp _) hp.2 m1
  have et2 : s2.1 t = some (5, fi, va_up fr 0 (some r)) := by rw [(n3.1 t (fre1 et)).1 (by simp)]; exact et
  simp only [r_X5_init_33, r_X5_init_36, r_X5_init_37, xo et2, true_and]
  refine ⟨by omega, by omega, fun x k24 k1 k2 k3 => ?_⟩
  have n4 := NF_tr (NF_w n3 (ko' := [t]) (kr' := []) (by simp) (by simp)) (NF_u et2 (5, fi, va_up (va_up fr 0 (some r)) 1 (some p)))
  have m3 : PCQ (va_up s2.1 t (some (5, fi, va_up (va_up fr 0 (some r)) 1 (some p))), s2.2) p pr := PCQ_n m2 (NF_u et2 _) (by simp; exact fun z => tp z.symm) (by simp)
  generalize hs3 : ((va_up s2.1 t (some (5, fi, va_up (va_up fr 0 (some r)) 1 (some p))), s2.2) : xS) = s3 at n4 m3
  have hx : frs s3 x := by rw [← hs3]; exact ⟨k24, k1, k2, k3⟩
  have et3 : s3.1 t = some (5, fi, va_up (va_up fr 0 (some r)) 1 (some p)) := by rw [← hs3]; exact va_up_self _ _ _
  have hfold2 : ((va_up (va_up s2.1 t (some (5, fi, va_up (va_up fr 0 (some r)) 1 (some p)))) x (some (3, fun _ => (0 : Int32), fun _ => (none : Option Nat))), s2.2) : xS) = (va_up s3.1 x (some (3, fun _ => 0, fun _ => none)), s3.2) := by rw [← hs3]
  rw [hfold2]
  simp only [r_X5_init_40, r_X5_init_41]
  have ex : (va_up s3.1 x (some (3, (fun _ => (0 : Int32)), (fun _ => (none : Option Nat)))), s3.2).1 x = some (3, fun _ => 0, fun _ => none) := va_up_self _ _ _
  refine ⟨1, 120, _, by omega, by omega, i_X3 ex rfl 1 120 (Nat.le_refl _) (Nat.le_refl _), ?_⟩
  rintro s4 ⟨xr, hxr, l1, l2⟩
  have tx' : t ≠ x := fun z => by rw [← z] at hx; rw [hx.2.1] at et3; cases et3
  have n5 : NF [] [] s3 s4 := NF_drop (NF_o hx _) hx.2 l1
  have et4 : s4.1 t = some (5, fi, va_up (va_up fr 0 (some r)) 1 (some p)) := by rw [(n5.1 t (fre1 et3)).1 (by simp)]; exact et3
  simp only [r_X5_init_44, r_X5_init_47, r_X5_init_48, r_X5_init_49, r_X5_init_52, r_X5_init_53, r_X5_init_54, r_X5_init_57, xo et4, xu, va_up_up, true_and, mN_e]
  have n6 := NF_u et4 (5, upd fi 3 (nI 0), va_up (va_up (va_up (va_up fr 0 (some r)) 1 (some p)) 2 (some x)) 4 none)
  have n15 : NF [t] [] s s4 := NF_tr (NF_tr n2 n4) (NF_w n5 (by simp) (by simp))
  have fpr : frs s1 pr := NF_fr (NF_o hp _) hpr
  have fx : frs s1 x := NF_fr n4 hx
  have fxr3 : frs s3 xr := NF_fr (NF_o hx _) hxr
  have fxr : frs s1 xr := NF_fr n4 fxr3
  have upr : ∀ {s' : xS} {t' r' : Nat}, PCQ s' t' r' → ¬ fre s' t' ∧ ¬ fre s' r' := fun {s' t' r'} hh => by
    obtain ⟨_, _, _, z1, _, _, z2⟩ := hh
    exact ⟨fre1 z1, fre3 z2⟩
  have rp : r ≠ p := fun z => by rw [← z] at hp; exact fre2 er hp.2
  have rpr : r ≠ pr := fun z => by rw [← z] at fpr; exact fre2 er fpr.2
  have rx : r ≠ x := fun z => by rw [← z] at fx; exact fre2 er fx.2
  have rxr : r ≠ xr := fun z => by rw [← z] at fxr; exact fre2 er fxr.2
  have ppr : p ≠ pr := fun z => by rw [← z] at hpr; exact fre1 ep hpr.2
  have px : p ≠ x := fun z => by rw [← z] at hx; exact (upr m3).1 hx.2
  have pxr : p ≠ xr := fun z => by rw [← z] at fxr3; exact (upr m3).1 fxr3.2
  have prx : pr ≠ x := fun z => by rw [← z] at hx; exact (upr m3).2 hx.2
  have prxr : pr ≠ xr := fun z => by rw [← z] at fxr3; exact (upr m3).2 fxr3.2
  have xxr : x ≠ xr := fun z => by rw [← z] at hxr; exact fre1 ex hxr.2
  refine ⟨r, p, pr, x, xr, ?_, ?_, NF_tr n15 n6, ⟨upd fi 3 (nI 0), va_up (va_up (va_up (va_up fr 0 (some r)) 1 (some p)) 2 (some x)) 4 none, upd (upd (upd (fun _ => (0 : Int32)) 0 (nI 8)) 1 (nI 6)) 2 (nI 4), va_up_self _ _ _, ?_, ?_, ?_, pk_us, va_up_self _ _ _, ?_, ?_, ?_, pk_us⟩, PCQ_n (PCQ_n m3 n5 (by simp) (by simp)) n6 (by simp; exact fun z => tp z.symm) (by simp), TXQ_n l2 n6 (by simp; exact fun z => tx' z.symm)⟩
  · simp only [List.nodup_cons, List.mem_cons, List.not_mem_nil, or_false, not_or, not_false_eq_true, List.nodup_nil, and_true]
    exact ⟨⟨rp, rpr, rx, rxr⟩, ⟨ppr, px, pxr⟩, ⟨prx, prxr⟩, xxr⟩
  · intro k hk
    simp only [List.mem_cons, List.not_mem_nil, or_false] at hk
    rcases hk with rfl | rfl | rfl | rfl | rfl
    · exact hr
    · exact NF_fr n2 hp
    · exact NF_fr n2 fpr
    · exact NF_fr n2 fx
    · exact NF_fr n2 fxr
  · rw [va_up_ne _ _ (by decide), va_up_ne _ _ (by decide), va_up_ne _ _ (by decide), va_up_self]
  · rw [va_up_ne _ _ (by decide), va_up_ne _ _ (by decide), va_up_self]
  · rw [va_up_ne _ _ (by decide), va_up_self]
  · have e1 : s4.2.1 r = s3.2.1 r := (n5.1 r (n4.1 r (fre2 er)).2.2.2).2.1
    have e2 : s3.2.1 r = s1.2.1 r := (n4.1 r (fre2 er)).2.1
    show s4.2.1 r = _
    rw [e1, e2]; exact er
  · rw [pk_un (by decide), pk_un (by decide), pk_us]
  · rw [pk_un (by decide), pk_us]
