section VX
variable {p : Program} {l : Launch} {e : Env} {R : Room} {s : State} {m : MethodId} {args : Array Value} {below : List Frame} {meth : Method} {c : Code} {H : Heap} {locs : List Loc} {cells slots : Nat} {Q : State → Prop}
variable {cc : ByteArray} {pc : Nat} {ls : Array Slot} {rest : List Value} {D : va_G} {cl : List vw_C} {a : Nat} {tys : List (ClassId × FieldType)}
theorem vx_P1 {q : Nat × va_E} (h : va_at D cl q H) : va_P D cl [q] H := fun k x hx => by
  have hz : k < 1 := (List.getElem?_eq_some_iff.mp hx).1
  rw [show k = 0 by omega] at hx
  cases hx
  exact h
theorem vx_put (hexec : p.tables.exec = Jvm.exec) (hb : c.code = cc) {own C : String} {T : u_T} {N ci index : Nat} {Ts : List Cond} (hts : ∀ w ∈ Ts, w.before args s = true) (hin : ∀ w ∈ u_ws C T N, w ∈ Ts) (ty0 : Nat → FieldType) (hty : ∀ k, k < N → parseFieldDescriptor (T k).2.2.1 = some (ty0 k)) (hnm : ∀ a, a < N → ∀ b, b < N → a ≠ b → (T a).2.1 ≠ (T b).2.1) (hown : s.vm.findClass own = some m.cls) (hK : va_K D cl tys s) {fs : List Value} (hat : va_at D cl (a, .inr (ci, fs)) H) (hc : cl[ci]? = some (C, T, N)) (k : Nat) (hk : k < N) (hlink : (Cond.fieldLink own index (T k).1 (T k).2.1 (T k).2.2.1).before args s = true) (hfin : (T k).2.2.2 = false ∨ ((T k).2.2.2 = true ∧ meth.name = "<init>" ∧ (T k).1 = own)) {ty : FieldType} {v : Value} (hd : parseFieldDescriptor (T k).2.2.1 = some ty) (hn : narrow ty v = v) (hfit : fits ty v = true) (hl : k < fs.length) (hdg : decode cc pc = .ok (.putfield index, 3))
    (kk : ∀ (H1 : Heap) (sl : Nat), va_at D cl (a, .inr (ci, fs.set k v)) H1 → H1.size = H.size → (∀ q, q ≠ a → H1[q]? = H[q]?) → W p l e R s m args below meth c H1 (locs ++ [⟨a, sl⟩]) cells slots Q (F0 m (pc + 3) ls rest)) : W p l e R s m args below meth c H locs cells slots Q (F0 m pc ls (v :: .ref a :: rest)) := by
  have hap := va_apart (own := own) hts hin ty0 hty hnm hK hc
  obtain ⟨r, h1, cell, q1, q2, q3, q4⟩ := hat
  have hr : r = (C, T, N) := Option.some.inj (h1.symm.trans hc)
  subst hr
  obtain ⟨hS, hfc, kC, hkC, hkind⟩ := hK.1 ci _ hc
  obtain ⟨cf, kf, fi, f, hi, hsl⟩ := hS k hk
  have hlay := hts _ (hin _ (u_in_lay hk))
  have hst := (u_facts hfc hkC (u_lays hts hin hk) hi).1
  unfold u_lay at hlay
  rcases hfin with hfin | ⟨hfin, hin2, hdecl⟩
  · rw [if_neg (by rw [hfin]; decide)] at hlay
    have h6 := u_store hfc hkC hkind hlay hi hd hn hfit
    refine W.putK hexec hb (f := f) ⟨hown, hlink, ⟨_, _, _, hi⟩, hst⟩ (by rw [q2]; exact h6) q1 q3 (by rw [hsl]; exact k2_hasslot (q4 k hk)) rfl rfl hdg fun H' e1 e2 e3 => ?_
    rw [hsl] at e1 ⊢
    exact kk H' _ ⟨_, hc, t_OB.to (V := updV (vp_V fs) k v) ⟨_, e1, q2, q3, t_set q4 hap hk v⟩ (fun j _ => vp_updV_set hl v j)⟩ e2 e3
  · rw [if_pos hfin] at hlay
    have hcf : m.cls = cf := by
      obtain ⟨_, _, c', _, _, _, -, -, hf', -, -, -, hown2, -⟩ := Cond.laysFinal_spec hlay
      have e1 : c' = cf := by have := hi.symm.trans hf'; simp at this; exact this.1.symm
      rw [hdecl] at hown2
      rw [← e1]; exact Option.some.inj (hown.symm.trans hown2)
    have h6 := u_fits hfc hkC hkind (Or.inr hlay) hi hd hn hfit
    refine W.putFinK hexec hb hown hlink hi hst hcf hin2 (by rw [q2]; exact h6) q1 q3 (by rw [hsl]; exact k2_hasslot (q4 k hk)) rfl rfl hdg fun H' e1 e2 e3 => ?_
    rw [hsl] at e1 ⊢
    exact kk H' _ ⟨_, hc, t_OB.to (V := updV (vp_V fs) k v) ⟨_, e1, q2, q3, t_set q4 hap hk v⟩ (fun j _ => vp_updV_set hl v j)⟩ e2 e3
theorem vx_iast (hexec : p.tables.exec = Jvm.exec) (hb : c.code = cc) (hK : va_K D cl tys s) (t0 : Nat) {cA : ClassId} {n : Nat} {f : Nat → Int32} (hat : va_at D cl (a, .inl (cA, n, .inl f)) H) (ht : tys[t0]? = some (cA, .int)) {i x : Int32} (hin : vp_in i n) (hdg : decode cc pc = .ok (.iastore, 1))
    (kk : ∀ (H1 : Heap) (sl : Nat), va_at D cl (a, .inl (cA, n, .inl (upd f i.toNatClampNeg x))) H1 → H1.size = H.size → (∀ q, q ≠ a → H1[q]? = H[q]?) → W p l e R s m args below meth c H1 (locs ++ [⟨a, sl⟩]) cells slots Q (F0 m (pc + 1) ls rest)) : W p l e R s m args below meth c H locs cells slots Q (F0 m pc ls (.int x :: .int i :: .ref a :: rest)) := by
  refine W.iast hexec hb hat ((hK.2 t0 _ ht).1 n (fun j => .int (f j))) (fun q => by cases q) (by show ¬ (i < 0 ∨ (arrV _ _ _).slots.size ≤ _); rw [arrV_size]; exact hin) rfl rfl hdg fun H1 e z oq => ?_
  refine kk H1 _ ?_ z oq
  show H1[a]? = some (vp_cell _ _)
  rw [e, vp_cell_i, vp_cell_i, arrV_store]
  congr 2
  funext q
  by_cases hq : q = i.toNatClampNeg
  · subst hq
    simp [updV, upd]
  · simp [updV, upd, hq]
theorem vx_astq (hexec : p.tables.exec = Jvm.exec) (hb : c.code = cc) (hK : va_K D cl tys s) (t0 ci : Nat) {cA : ClassId} {r : vw_C} {n v : Nat} {vs : List Value} {f : Nat → Option Nat} (hat : va_at D cl (a, .inl (cA, n, .inr (.inr (.inr (.inr f))))) H) (ht : tys[t0]? = some (cA, .object r.1)) (hv : va_at D cl (v, .inr (ci, vs)) H) (hc : cl[ci]? = some r) {i : Int32} (hin : vp_in i n) (hdg : decode cc pc = .ok (.aastore, 1))
    (kk : ∀ (H1 : Heap) (sl : Nat), va_at D cl (a, .inl (cA, n, .inr (.inr (.inr (.inr (va_up f i.toNatClampNeg (some v))))))) H1 → H1.size = H.size → (∀ q, q ≠ a → H1[q]? = H[q]?) → W p l e R s m args below meth c H1 (locs ++ [⟨a, sl⟩]) cells slots Q (F0 m (pc + 1) ls rest)) : W p l e R s m args below meth c H locs cells slots Q (F0 m pc ls (.ref v :: .int i :: .ref a :: rest)) := by
  have hlt : i.toNatClampNeg < n := Nat.not_le.mp fun q => hin (Or.inr q)
  have h0 : ¬ i < 0 := fun q => hin (Or.inl q)
  obtain ⟨r', hr', cellV, g1, g2, g3, -⟩ := hv
  have hcls := (hK.1 ci r hc).2
  obtain ⟨kA, comp, k1, k2, k3, -⟩ := (hK.2 t0 _ ht).2
  have hcomp : comp = D.1 ci := Option.some.inj (k3.symm.trans hcls.1)
  subst hcomp
  obtain ⟨kC, hkC, -⟩ := hcls.2
  refine W.aast hexec hb hat (fun q h => by cases h) (fun h => by cases h) k1 k2 rfl hkC ⟨h0, by show _ < (arrV _ _ _).slots.size; rw [arrV_size]; exact hlt⟩ g1 (fun q h => by rw [g3] at h; cases h) (by rw [g2]; exact hkC) (by rw [g2]; exact va_assign hcls) rfl rfl hdg fun H1 e z oq => ?_
  refine kk H1 _ ?_ z oq
  show H1[a]? = some (vp_cell _ _)
  rw [e, vp_cell_q, vp_cell_q, arrV_store]
  congr 2
  funext q
  by_cases hq : q = i.toNatClampNeg
  · subst hq
    simp [updV, va_up, va_rf]
  · simp [updV, va_up, hq]
theorem vx_astqN (hexec : p.tables.exec = Jvm.exec) (hb : c.code = cc) (hK : va_K D cl tys s) (t0 : Nat) {cA : ClassId} {C : String} {n : Nat} {f : Nat → Option Nat} (hat : va_at D cl (a, .inl (cA, n, .inr (.inr (.inr (.inr f))))) H) (ht : tys[t0]? = some (cA, .object C)) {i : Int32} (hin : vp_in i n) (hdg : decode cc pc = .ok (.aastore, 1))
    (kk : ∀ (H1 : Heap) (sl : Nat), va_at D cl (a, .inl (cA, n, .inr (.inr (.inr (.inr (va_up f i.toNatClampNeg none)))))) H1 → H1.size = H.size → (∀ q, q ≠ a → H1[q]? = H[q]?) → W p l e R s m args below meth c H1 (locs ++ [⟨a, sl⟩]) cells slots Q (F0 m (pc + 1) ls rest)) : W p l e R s m args below meth c H locs cells slots Q (F0 m pc ls (.null :: .int i :: .ref a :: rest)) := by
  refine va_WaastN (C := C) hexec hb hat ((hK.2 t0 _ ht).1 n (fun j => va_rf (f j))) (fun h => by cases h) (by show ¬ (i < 0 ∨ (arrV _ _ _).slots.size ≤ _); rw [arrV_size]; exact hin) rfl rfl hdg fun H1 e z oq => ?_
  refine kk H1 _ ?_ z oq
  show H1[a]? = some (vp_cell _ _)
  rw [e, vp_cell_q, vp_cell_q, arrV_store]
  congr 2
  funext q
  by_cases hq : q = i.toNatClampNeg
  · subst hq
    simp [updV, va_up, va_rf]
  · simp [updV, va_up, hq]
end VX
theorem x_X0_O {σ : xS} {k : Nat} {o o' : xO} (hX : x_X0 σ) (h : σ.1 k = some o) : x_X0 (va_up σ.1 k (some o'), σ.2) := by
  intro j
  by_cases hj : j = k
  · subst hj
    have h1 := (hX j).1 (by rw [h]; exact fun z => by cases z)
    exact ⟨fun _ => h1, (hX j).2⟩
  · refine ⟨fun z => (hX j).1 (by rw [← va_up_ne σ.1 (some o') hj]; exact z), (hX j).2⟩
theorem x_eq_O {cs ad : Nat → Nat} {σ : xS} {k j : Nat} {o : Option xO} (hj : j ≠ k) : x_e cs ad (va_up σ.1 k o, σ.2) j = x_e cs ad σ j := by
  unfold x_e x_e0
  dsimp only
  rw [va_up_ne _ _ hj]
theorem x_eq_G {cs ad : Nat → Nat} {σ : xS} {k j : Nat} {o : Option (Nat × (Nat → Int32))} (hj : j ≠ k) : x_e cs ad (σ.1, va_up σ.2.1 k o, σ.2.2) j = x_e cs ad σ j := by
  unfold x_e x_e0
  dsimp only
  rw [va_up_ne _ _ hj]
theorem x_eq_R {cs ad : Nat → Nat} {σ : xS} {k j : Nat} {o : Option (Nat × (Nat → Option Nat))} (hj : j ≠ k) : x_e cs ad (σ.1, σ.2.1, va_up σ.2.2 k o) j = x_e cs ad σ j := by
  unfold x_e x_e0
  dsimp only
  rw [va_up_ne _ _ hj]
theorem x_X0_G {σ : xS} {k : Nat} {t t' : Nat × (Nat → Int32)} (hX : x_X0 σ) (h : σ.2.1 k = some t) : x_X0 (σ.1, va_up σ.2.1 k (some t'), σ.2.2) := by
  intro j
  by_cases hj : j = k
  · subst hj
    refine ⟨fun z => ?_, fun _ => (hX j).2 (by rw [h]; exact fun z => by cases z)⟩
    have := ((hX j).1 z).1
    rw [h] at this
    cases this
  · refine ⟨fun z => ⟨?_, ((hX j).1 z).2⟩, fun z => (hX j).2 (by rw [← va_up_ne σ.2.1 (some t') hj]; exact z)⟩
    show va_up σ.2.1 k (some t') j = none
    rw [va_up_ne _ _ hj]
    exact ((hX j).1 z).1
theorem x_X0_R {σ : xS} {k : Nat} {t t' : Nat × (Nat → Option Nat)} (hX : x_X0 σ) (h : σ.2.2 k = some t) : x_X0 (σ.1, σ.2.1, va_up σ.2.2 k (some t')) := by
  intro j
  by_cases hj : j = k
  · subst hj
    refine ⟨fun z => ?_, fun z => ?_⟩
    · have := ((hX j).1 z).2
      rw [h] at this
      cases this
    · have := (hX j).2 z
      rw [h] at this
      cases this
  · refine ⟨fun z => ⟨((hX j).1 z).1, ?_⟩, fun z => ?_⟩
    · show va_up σ.2.2 k (some t') j = none
      rw [va_up_ne _ _ hj]
      exact ((hX j).1 z).2
    · show va_up σ.2.2 k (some t') j = none
      rw [va_up_ne _ _ hj]
      exact (hX j).2 z
theorem x_X0_nO {σ : xS} {k : Nat} {o' : xO} (hX : x_X0 σ) (h1 : σ.2.1 k = none) (h2 : σ.2.2 k = none) : x_X0 (va_up σ.1 k (some o'), σ.2) := by
  intro j
  by_cases hj : j = k
  · subst hj
    exact ⟨fun _ => ⟨h1, h2⟩, (hX j).2⟩
  · exact ⟨fun z => (hX j).1 (by rw [← va_up_ne σ.1 (some o') hj]; exact z), (hX j).2⟩
theorem x_X0_nG {σ : xS} {k : Nat} {t' : Nat × (Nat → Int32)} (hX : x_X0 σ) (h1 : σ.1 k = none) (h2 : σ.2.2 k = none) : x_X0 (σ.1, va_up σ.2.1 k (some t'), σ.2.2) := by
  intro j
  by_cases hj : j = k
  · subst hj
    exact ⟨fun z => absurd h1 z, fun _ => h2⟩
  · refine ⟨fun z => ⟨?_, ((hX j).1 z).2⟩, fun z => (hX j).2 (by rw [← va_up_ne σ.2.1 (some t') hj]; exact z)⟩
    show va_up σ.2.1 k (some t') j = none
    rw [va_up_ne _ _ hj]
    exact ((hX j).1 z).1
theorem x_X0_nR {σ : xS} {k : Nat} {t' : Nat × (Nat → Option Nat)} (hX : x_X0 σ) (h1 : σ.1 k = none) (h2 : σ.2.1 k = none) : x_X0 (σ.1, σ.2.1, va_up σ.2.2 k (some t')) := by
  intro j
  by_cases hj : j = k
  · subst hj
    exact ⟨fun z => absurd h1 z, fun z => absurd h2 z⟩
  · refine ⟨fun z => ⟨((hX j).1 z).1, ?_⟩, fun z => ?_⟩
    · show va_up σ.2.2 k (some t') j = none
      rw [va_up_ne _ _ hj]
      exact ((hX j).1 z).2
    · show va_up σ.2.2 k (some t') j = none
      rw [va_up_ne _ _ hj]
      exact (hX j).2 z
theorem x_R_O {σ : xS} {k : Nat} {v : Option xO} (hk : k ≠ 22 ∧ k ≠ 23) (h : x_R σ) : x_R (va_up σ.1 k v, σ.2) := ⟨⟨(va_up_ne _ _ (Ne.symm hk.1)).trans h.1.1, (va_up_ne _ _ (Ne.symm hk.2)).trans h.1.2.1, h.1.2.2⟩, h.2⟩
theorem x_R_R {σ : xS} {k : Nat} {v : Option (Nat × (Nat → Option Nat))} (hk : k ≠ 22 ∧ k ≠ 23) (h : x_R σ) : x_R (σ.1, σ.2.1, va_up σ.2.2 k v) := ⟨⟨h.1.1, h.1.2.1, (va_up_ne _ _ (Ne.symm hk.1)).trans h.1.2.2.1, (va_up_ne _ _ (Ne.symm hk.2)).trans h.1.2.2.2⟩, h.2⟩
theorem x_R_G {σ : xS} {k : Nat} {v : Option (Nat × (Nat → Int32))} (hk : k ≠ 22 ∧ k ≠ 23) (h : x_R σ) : x_R (σ.1, va_up σ.2.1 k v, σ.2.2) := ⟨h.1, fun t ht => h.2.1 t ((va_up_ne _ _ (Ne.symm hk.1)).symm.trans ht), fun t ht => h.2.2 t ((va_up_ne _ _ (Ne.symm hk.2)).symm.trans ht)⟩
theorem x_X_O {σ : xS} {k : Nat} {o o' : xO} (hX : x_X σ) (h : σ.1 k = some o) : x_X (va_up σ.1 k (some o'), σ.2) := ⟨x_X0_O hX.1 h, x_R_O (x_n0 hX h) hX.2⟩
theorem x_X_G {σ : xS} {k : Nat} {t t' : Nat × (Nat → Int32)} (hX : x_X σ) (hk : k ≠ 22 ∧ k ≠ 23) (h : σ.2.1 k = some t) : x_X (σ.1, va_up σ.2.1 k (some t'), σ.2.2) := ⟨x_X0_G hX.1 h, x_R_G hk hX.2⟩
theorem x_X_R {σ : xS} {k : Nat} {t t' : Nat × (Nat → Option Nat)} (hX : x_X σ) (h : σ.2.2 k = some t) : x_X (σ.1, σ.2.1, va_up σ.2.2 k (some t')) := ⟨x_X0_R hX.1 h, x_R_R (x_nR hX h) hX.2⟩
theorem x_X_nO {σ : xS} {k : Nat} {o' : xO} (hX : x_X σ) (h1 : σ.2.1 (k + 24) = none) (h2 : σ.2.2 (k + 24) = none) : x_X (va_up σ.1 (k + 24) (some o'), σ.2) := ⟨x_X0_nO hX.1 h1 h2, x_R_O (x_h24 k) hX.2⟩
theorem x_X_nG {σ : xS} {k : Nat} {t' : Nat × (Nat → Int32)} (hX : x_X σ) (h1 : σ.1 (k + 24) = none) (h2 : σ.2.2 (k + 24) = none) : x_X (σ.1, va_up σ.2.1 (k + 24) (some t'), σ.2.2) := ⟨x_X0_nG hX.1 h1 h2, x_R_G (x_h24 k) hX.2⟩
theorem x_X_nR {σ : xS} {k : Nat} {t' : Nat × (Nat → Option Nat)} (hX : x_X σ) (h1 : σ.1 (k + 24) = none) (h2 : σ.2.1 (k + 24) = none) : x_X (σ.1, σ.2.1, va_up σ.2.2 (k + 24) (some t')) := ⟨x_X0_nR hX.1 h1 h2, x_R_R (x_h24 k) hX.2⟩
theorem mE_rf (rho : Nat → Nat) (x : Option Nat) : mE rho (.inr x) = va_rf (x.map rho) := by cases x <;> rfl
theorem x_fitsO {rho : Nat → Nat} {x : Option Nat} {C : String} : narrow (.object C) (mE rho (.inr x)) = mE rho (.inr x) ∧ fits (.object C) (mE rho (.inr x)) = true := by cases x <;> exact ⟨rfl, rfl⟩
theorem x_fitsA {rho : Nat → Nat} {x : Option Nat} {t : FieldType} : narrow (.array t) (mE rho (.inr x)) = mE rho (.inr x) ∧ fits (.array t) (mE rho (.inr x)) = true := by cases x <;> exact ⟨rfl, rfl⟩
section XS
variable {p : Program} {l : Launch} {e : Env} {R : Room} {s0 : State} {m : MethodId} {args : Array Value} {below : List Frame} {meth : Method} {c : Code} {cc : ByteArray} {nL : Nat} {D : va_G} {cs ad : Nat → Nat} {A : Nat → Prop} {Q : State → Prop}
/-- what a putfield leaves: the picture, the frame -/
theorem x_putO {σ : xS} {H H1 : Heap} {locs : List Loc} {r sl : Nat} {o o' : xO} (hW : x_W D cs ad A σ H) (hS : va_S A s0.heap H locs) (ho : σ.1 r = some o) (hat : va_at D classes (x_rho ad r, .inr (o'.1, x_fs ad o')) H1) (hz : H1.size = H.size) (hq : ∀ q, q ≠ x_rho ad r → H1[q]? = H[q]?) : x_W D cs ad A (va_up σ.1 r (some o'), σ.2) H1 ∧ va_S A s0.heap H1 (locs ++ [⟨x_rho ad r, sl⟩]) := by
  have he := x_eO (cs := cs) (ad := ad) (x_n0 hW.2.2 ho) ho
  have hA : A (x_rho ad r) := by
    rcases (hW.1 r _ he).2 with h | h
    · exact h
    · rw [ho] at h; cases h.1
  have he' : x_e cs ad (va_up σ.1 r (some o'), σ.2) r = some (.inr (o'.1, x_fs ad o')) := x_eO (x_n0 hW.2.2 ho) (show va_up σ.1 r (some o') r = some o' from va_up_self _ _ _)
  exact ⟨x_W_upd hW he he' (fun j hj => x_eq_O hj) (fun j hj => va_up_ne _ _ hj) (x_X_O hW.2.2 ho) hat hq hA, hS.put hz hq hA⟩

set_option maxHeartbeats 8000000 in
set_option maxRecDepth 20000 in
theorem x_get_0 (F : CallFix p m c cc nL s0 args tb RX0) (hK : kk D cs (fun i => ad (22 + i)) A s0) {i len pc : Nat} {st : List mV} {s : xS} {a b : Nat} {k : List mV → xS → Nat → Nat → Prop} {ini : Bool} (h : x_hk ini 0 (.getfield i) st s a b k) (hd : decode cc pc = .ok (.getfield i, 3)) {H : Heap} {locs : List Loc} {cells slots : Nat} {ls : Array Slot} (hW : x_W D cs ad A s H) (hS : va_S A s0.heap H locs) (hc : cells + a ≤ R.cells) (hs : slots + b ≤ R.slots)
    (kk : ∀ (st' : List mV) (s' : xS) (a' b' : Nat) (H' : Heap) (locs' : List Loc) (cells' slots' : Nat), k st' s' a' b' → x_W D cs ad A s' H' → va_S A s0.heap H' locs' → cells' + a' ≤ R.cells → slots' + b' ≤ R.slots → W p l e R s0 m args below meth c H' locs' cells' slots' Q (F0 m (pc + 3) ls (st'.map (mE (x_rho ad))))) :
    W p l e R s0 m args below meth c H locs cells slots Q (F0 m pc ls (st.map (mE (x_rho ad)))) := by
  obtain ⟨hx, hb, hml, hown, hts⟩ := F
  unfold x_hk at h
  dsimp only at h
  split at h <;> (try exact h.elim)
  rename_i r st'
  split at h <;> (try exact h.elim)
  rename_i q hf
  obtain ⟨⟨ci, oi, or⟩, ho, hci, h⟩ := h
  have hat := (hW.1 r _ (x_eO (x_n0 hW.2.2 ho) ho)).1
  replace hf : x_fm0 i = some q := hf
  unfold x_fm0 at hf
  split at hf
  · cases hf; cases hci; exact va_get (D := D) (ci := 0) (v := mE (x_rho ad) (.inl (oi 0))) (C := RX0) (T := TX0) (N := 9) (own := RX0) (ref := RX0) hx hb hts in_X0 hown hK.1 (vx_P1 hat) 0 rfl rfl 0 (by decide) (hts _ wd_176) (fun _ h9 => h9) rfl hd (kk _ _ _ _ _ _ _ _ h hW hS hc hs)
  · cases hf; cases hci; exact va_get (D := D) (ci := 0) (v := mE (x_rho ad) (.inr (or 2))) (C := RX0) (T := TX0) (N := 9) (own := RX0) (ref := RX0) hx hb hts in_X0 hown hK.1 (vx_P1 hat) 0 rfl rfl 2 (by decide) (hts _ wd_185) (fun _ h9 => h9) rfl hd (kk _ _ _ _ _ _ _ _ h hW hS hc hs)
  · cases hf; cases hci; exact va_get (D := D) (ci := 3) (v := mE (x_rho ad) (.inl (oi 1))) (C := RX3) (T := TX3) (N := 2) (own := RX0) (ref := RX3) hx hb hts in_X3 hown hK.1 (vx_P1 hat) 0 rfl rfl 1 (by decide) (hts _ wd_76) (fun _ h9 => h9) rfl hd (kk _ _ _ _ _ _ _ _ h hW hS hc hs)
  · cases hf; cases hci; exact va_get (D := D) (ci := 0) (v := mE (x_rho ad) (.inl (oi 1))) (C := RX0) (T := TX0) (N := 9) (own := RX0) (ref := RX0) hx hb hts in_X0 hown hK.1 (vx_P1 hat) 0 rfl rfl 1 (by decide) (hts _ wd_182) (fun _ h9 => h9) rfl hd (kk _ _ _ _ _ _ _ _ h hW hS hc hs)
  · cases hf; cases hci; exact va_get (D := D) (ci := 0) (v := mE (x_rho ad) (.inr (or 5))) (C := RX0) (T := TX0) (N := 9) (own := RX0) (ref := RX0) hx hb hts in_X0 hown hK.1 (vx_P1 hat) 0 rfl rfl 5 (by decide) (hts _ wd_196) (fun _ h9 => h9) rfl hd (kk _ _ _ _ _ _ _ _ h hW hS hc hs)
  · cases hf; cases hci; exact va_get (D := D) (ci := 0) (v := mE (x_rho ad) (.inl (oi 6))) (C := RX0) (T := TX0) (N := 9) (own := RX0) (ref := RX0) hx hb hts in_X0 hown hK.1 (vx_P1 hat) 0 rfl rfl 6 (by decide) (hts _ wd_201) (fun _ h9 => h9) rfl hd (kk _ _ _ _ _ _ _ _ h hW hS hc hs)
  · cases hf; cases hci; exact va_get (D := D) (ci := 0) (v := mE (x_rho ad) (.inr (or 3))) (C := RX0) (T := TX0) (N := 9) (own := RX0) (ref := RX0) hx hb hts in_X0 hown hK.1 (vx_P1 hat) 0 rfl rfl 3 (by decide) (hts _ wd_187) (fun _ h9 => h9) rfl hd (kk _ _ _ _ _ _ _ _ h hW hS hc hs)
  · cases hf; cases hci; exact va_get (D := D) (ci := 0) (v := mE (x_rho ad) (.inr (or 4))) (C := RX0) (T := TX0) (N := 9) (own := RX0) (ref := RX0) hx hb hts in_X0 hown hK.1 (vx_P1 hat) 0 rfl rfl 4 (by decide) (hts _ wd_192) (fun _ h9 => h9) rfl hd (kk _ _ _ _ _ _ _ _ h hW hS hc hs)
  · cases hf
set_option maxHeartbeats 8000000 in
set_option maxRecDepth 20000 in
theorem x_put_0 (F : CallFix p m c cc nL s0 args tb RX0) (hK : kk D cs (fun i => ad (22 + i)) A s0) {i len pc : Nat} {st : List mV} {s : xS} {a b : Nat} {k : List mV → xS → Nat → Nat → Prop} {ini : Bool} (hini : ini = true → meth.name = "<init>") (h : x_hk ini 0 (.putfield i) st s a b k) (hd : decode cc pc = .ok (.putfield i, 3)) {H : Heap} {locs : List Loc} {cells slots : Nat} {ls : Array Slot} (hW : x_W D cs ad A s H) (hS : va_S A s0.heap H locs) (hc : cells + a ≤ R.cells) (hs : slots + b ≤ R.slots)
    (kk : ∀ (st' : List mV) (s' : xS) (a' b' : Nat) (H' : Heap) (locs' : List Loc) (cells' slots' : Nat), k st' s' a' b' → x_W D cs ad A s' H' → va_S A s0.heap H' locs' → cells' + a' ≤ R.cells → slots' + b' ≤ R.slots → W p l e R s0 m args below meth c H' locs' cells' slots' Q (F0 m (pc + 3) ls (st'.map (mE (x_rho ad))))) :
    W p l e R s0 m args below meth c H locs cells slots Q (F0 m pc ls (st.map (mE (x_rho ad)))) := by
  obtain ⟨hx, hb, hml, hown, hts⟩ := F
  unfold x_hk at h
  dsimp only at h
  split at h <;> (try exact h.elim)
  rename_i v r st'
  split at h <;> (try exact h.elim)
  rename_i q hf
  obtain ⟨⟨ci, oi, or⟩, ho, hci, h⟩ := h
  have hat := (hW.1 r _ (x_eO (x_n0 hW.2.2 ho) ho)).1
  replace hf : x_fm0 i = some q := hf
  unfold x_fm0 at hf
  split at hf
  · cases hf; cases hci
    rcases v with x | x
    · exact vx_put (D := D) (ci := 0) (v := .int x) (ty := .int) (C := RX0) (T := TX0) (N := 9) (own := RX0) hx hb hts in_X0 tyX0 tyX0_ok nmX0 hown hK.1 hat rfl 0 (by decide) (hts _ wd_176) (Or.inl rfl) rfl rfl rfl (Nat.le_of_ble_eq_true rfl) hd (fun H1 sl ha hz hq => kk _ _ _ _ _ _ _ _ h (x_putO (s0 := s0) (locs := locs) (sl := sl) (o' := (0, upd oi 0 x, or)) hW hS ho ha hz hq).1 (x_putO (s0 := s0) (locs := locs) (sl := sl) (o' := (0, upd oi 0 x, or)) hW hS ho ha hz hq).2 hc hs)
    · exact h.elim
  · cases hf; cases hci
    rcases v with x | x
    · exact h.elim
    · exact vx_put (D := D) (ci := 0) (v := mE (x_rho ad) (.inr x)) (ty := (.array .int)) (C := RX0) (T := TX0) (N := 9) (own := RX0) hx hb hts in_X0 tyX0 tyX0_ok nmX0 hown hK.1 hat rfl 2 (by decide) (hts _ wd_185) (Or.inl rfl) rfl x_fitsA.1 x_fitsA.2 (Nat.le_of_ble_eq_true rfl) hd (fun H1 sl ha hz hq => kk _ _ _ _ _ _ _ _ h (x_putO (s0 := s0) (locs := locs) (sl := sl) (o' := (0, oi, va_up or 2 x)) hW hS ho ha hz hq).1 (x_putO (s0 := s0) (locs := locs) (sl := sl) (o' := (0, oi, va_up or 2 x)) hW hS ho ha hz hq).2 hc hs)
  · cases hf; cases hci
    rcases v with x | x
    · exact vx_put (D := D) (ci := 3) (v := .int x) (ty := .int) (C := RX3) (T := TX3) (N := 2) (own := RX0) hx hb hts in_X3 tyX3 tyX3_ok nmX3 hown hK.1 hat rfl 1 (by decide) (hts _ wd_76) (Or.inl rfl) rfl rfl rfl (Nat.le_of_ble_eq_true rfl) hd (fun H1 sl ha hz hq => kk _ _ _ _ _ _ _ _ h (x_putO (s0 := s0) (locs := locs) (sl := sl) (o' := (3, upd oi 1 x, or)) hW hS ho ha hz hq).1 (x_putO (s0 := s0) (locs := locs) (sl := sl) (o' := (3, upd oi 1 x, or)) hW hS ho ha hz hq).2 hc hs)
    · exact h.elim
  · cases hf; cases hci
    rcases v with x | x
    · exact vx_put (D := D) (ci := 0) (v := .int x) (ty := .int) (C := RX0) (T := TX0) (N := 9) (own := RX0) hx hb hts in_X0 tyX0 tyX0_ok nmX0 hown hK.1 hat rfl 1 (by decide) (hts _ wd_182) (Or.inl rfl) rfl rfl rfl (Nat.le_of_ble_eq_true rfl) hd (fun H1 sl ha hz hq => kk _ _ _ _ _ _ _ _ h (x_putO (s0 := s0) (locs := locs) (sl := sl) (o' := (0, upd oi 1 x, or)) hW hS ho ha hz hq).1 (x_putO (s0 := s0) (locs := locs) (sl := sl) (o' := (0, upd oi 1 x, or)) hW hS ho ha hz hq).2 hc hs)
    · exact h.elim
  · cases hf; cases hci
    rcases v with x | x
    · exact h.elim
    · exact vx_put (D := D) (ci := 0) (v := mE (x_rho ad) (.inr x)) (ty := (.object RX0)) (C := RX0) (T := TX0) (N := 9) (own := RX0) hx hb hts in_X0 tyX0 tyX0_ok nmX0 hown hK.1 hat rfl 5 (by decide) (hts _ wd_196) (Or.inl rfl) rfl x_fitsO.1 x_fitsO.2 (Nat.le_of_ble_eq_true rfl) hd (fun H1 sl ha hz hq => kk _ _ _ _ _ _ _ _ h (x_putO (s0 := s0) (locs := locs) (sl := sl) (o' := (0, oi, va_up or 5 x)) hW hS ho ha hz hq).1 (x_putO (s0 := s0) (locs := locs) (sl := sl) (o' := (0, oi, va_up or 5 x)) hW hS ho ha hz hq).2 hc hs)
  · cases hf; cases hci
    rcases v with x | x
    · exact vx_put (D := D) (ci := 0) (v := .int x) (ty := .int) (C := RX0) (T := TX0) (N := 9) (own := RX0) hx hb hts in_X0 tyX0 tyX0_ok nmX0 hown hK.1 hat rfl 6 (by decide) (hts _ wd_201) (Or.inl rfl) rfl rfl rfl (Nat.le_of_ble_eq_true rfl) hd (fun H1 sl ha hz hq => kk _ _ _ _ _ _ _ _ h (x_putO (s0 := s0) (locs := locs) (sl := sl) (o' := (0, upd oi 6 x, or)) hW hS ho ha hz hq).1 (x_putO (s0 := s0) (locs := locs) (sl := sl) (o' := (0, upd oi 6 x, or)) hW hS ho ha hz hq).2 hc hs)
    · exact h.elim
  · cases hf; cases hci
    rcases v with x | x
    · exact h.elim
    · exact vx_put (D := D) (ci := 0) (v := mE (x_rho ad) (.inr x)) (ty := (.object RX0)) (C := RX0) (T := TX0) (N := 9) (own := RX0) hx hb hts in_X0 tyX0 tyX0_ok nmX0 hown hK.1 hat rfl 3 (by decide) (hts _ wd_187) (Or.inl rfl) rfl x_fitsO.1 x_fitsO.2 (Nat.le_of_ble_eq_true rfl) hd (fun H1 sl ha hz hq => kk _ _ _ _ _ _ _ _ h (x_putO (s0 := s0) (locs := locs) (sl := sl) (o' := (0, oi, va_up or 3 x)) hW hS ho ha hz hq).1 (x_putO (s0 := s0) (locs := locs) (sl := sl) (o' := (0, oi, va_up or 3 x)) hW hS ho ha hz hq).2 hc hs)
  · cases hf; cases hci
    rcases v with x | x
    · exact h.elim
    · exact vx_put (D := D) (ci := 0) (v := mE (x_rho ad) (.inr x)) (ty := (.object RX0)) (C := RX0) (T := TX0) (N := 9) (own := RX0) hx hb hts in_X0 tyX0 tyX0_ok nmX0 hown hK.1 hat rfl 4 (by decide) (hts _ wd_192) (Or.inl rfl) rfl x_fitsO.1 x_fitsO.2 (Nat.le_of_ble_eq_true rfl) hd (fun H1 sl ha hz hq => kk _ _ _ _ _ _ _ _ h (x_putO (s0 := s0) (locs := locs) (sl := sl) (o' := (0, oi, va_up or 4 x)) hW hS ho ha hz hq).1 (x_putO (s0 := s0) (locs := locs) (sl := sl) (o' := (0, oi, va_up or 4 x)) hW hS ho ha hz hq).2 hc hs)
  · cases hf
set_option maxHeartbeats 8000000 in
set_option maxRecDepth 20000 in
theorem x_get_1 (F : CallFix p m c cc nL s0 args tb RX1) (hK : kk D cs (fun i => ad (22 + i)) A s0) {i len pc : Nat} {st : List mV} {s : xS} {a b : Nat} {k : List mV → xS → Nat → Nat → Prop} {ini : Bool} (h : x_hk ini 1 (.getfield i) st s a b k) (hd : decode cc pc = .ok (.getfield i, 3)) {H : Heap} {locs : List Loc} {cells slots : Nat} {ls : Array Slot} (hW : x_W D cs ad A s H) (hS : va_S A s0.heap H locs) (hc : cells + a ≤ R.cells) (hs : slots + b ≤ R.slots)
    (kk : ∀ (st' : List mV) (s' : xS) (a' b' : Nat) (H' : Heap) (locs' : List Loc) (cells' slots' : Nat), k st' s' a' b' → x_W D cs ad A s' H' → va_S A s0.heap H' locs' → cells' + a' ≤ R.cells → slots' + b' ≤ R.slots → W p l e R s0 m args below meth c H' locs' cells' slots' Q (F0 m (pc + 3) ls (st'.map (mE (x_rho ad))))) :
    W p l e R s0 m args below meth c H locs cells slots Q (F0 m pc ls (st.map (mE (x_rho ad)))) := by
  obtain ⟨hx, hb, hml, hown, hts⟩ := F
  unfold x_hk at h
  dsimp only at h
  split at h <;> (try exact h.elim)
  rename_i r st'
  split at h <;> (try exact h.elim)
  rename_i q hf
  obtain ⟨⟨ci, oi, or⟩, ho, hci, h⟩ := h
  have hat := (hW.1 r _ (x_eO (x_n0 hW.2.2 ho) ho)).1
  replace hf : x_fm1 i = some q := hf
  unfold x_fm1 at hf
  split at hf
  · cases hf; cases hci; exact va_get (D := D) (ci := 1) (v := mE (x_rho ad) (.inr (or 0))) (C := RX1) (T := TX1) (N := 2) (own := RX1) (ref := RX1) hx hb hts in_X1 hown hK.1 (vx_P1 hat) 0 rfl rfl 0 (by decide) (hts _ wd_113) (fun _ h9 => h9) rfl hd (kk _ _ _ _ _ _ _ _ h hW hS hc hs)
  · cases hf; cases hci; exact va_get (D := D) (ci := 1) (v := mE (x_rho ad) (.inl (oi 1))) (C := RX1) (T := TX1) (N := 2) (own := RX1) (ref := RX1) hx hb hts in_X1 hown hK.1 (vx_P1 hat) 0 rfl rfl 1 (by decide) (hts _ wd_114) (fun _ h9 => h9) rfl hd (kk _ _ _ _ _ _ _ _ h hW hS hc hs)
  · cases hf; cases hci; exact va_get (D := D) (ci := 0) (v := mE (x_rho ad) (.inl (oi 0))) (C := RX0) (T := TX0) (N := 9) (own := RX1) (ref := RX0) hx hb hts in_X0 hown hK.1 (vx_P1 hat) 0 rfl rfl 0 (by decide) (hts _ wd_177) (fun _ h9 => h9) rfl hd (kk _ _ _ _ _ _ _ _ h hW hS hc hs)
  · cases hf; cases hci; exact va_get (D := D) (ci := 0) (v := mE (x_rho ad) (.inr (or 3))) (C := RX0) (T := TX0) (N := 9) (own := RX1) (ref := RX0) hx hb hts in_X0 hown hK.1 (vx_P1 hat) 0 rfl rfl 3 (by decide) (hts _ wd_186) (fun _ h9 => h9) rfl hd (kk _ _ _ _ _ _ _ _ h hW hS hc hs)
  · cases hf; cases hci; exact va_get (D := D) (ci := 0) (v := mE (x_rho ad) (.inr (or 4))) (C := RX0) (T := TX0) (N := 9) (own := RX1) (ref := RX0) hx hb hts in_X0 hown hK.1 (vx_P1 hat) 0 rfl rfl 4 (by decide) (hts _ wd_191) (fun _ h9 => h9) rfl hd (kk _ _ _ _ _ _ _ _ h hW hS hc hs)
  · cases hf
set_option maxHeartbeats 8000000 in
set_option maxRecDepth 20000 in
theorem x_put_1 (F : CallFix p m c cc nL s0 args tb RX1) (hK : kk D cs (fun i => ad (22 + i)) A s0) {i len pc : Nat} {st : List mV} {s : xS} {a b : Nat} {k : List mV → xS → Nat → Nat → Prop} {ini : Bool} (hini : ini = true → meth.name = "<init>") (h : x_hk ini 1 (.putfield i) st s a b k) (hd : decode cc pc = .ok (.putfield i, 3)) {H : Heap} {locs : List Loc} {cells slots : Nat} {ls : Array Slot} (hW : x_W D cs ad A s H) (hS : va_S A s0.heap H locs) (hc : cells + a ≤ R.cells) (hs : slots + b ≤ R.slots)
    (kk : ∀ (st' : List mV) (s' : xS) (a' b' : Nat) (H' : Heap) (locs' : List Loc) (cells' slots' : Nat), k st' s' a' b' → x_W D cs ad A s' H' → va_S A s0.heap H' locs' → cells' + a' ≤ R.cells → slots' + b' ≤ R.slots → W p l e R s0 m args below meth c H' locs' cells' slots' Q (F0 m (pc + 3) ls (st'.map (mE (x_rho ad))))) :
    W p l e R s0 m args below meth c H locs cells slots Q (F0 m pc ls (st.map (mE (x_rho ad)))) := by
  obtain ⟨hx, hb, hml, hown, hts⟩ := F
  unfold x_hk at h
  dsimp only at h
  split at h <;> (try exact h.elim)
  rename_i v r st'
  split at h <;> (try exact h.elim)
  rename_i q hf
  obtain ⟨⟨ci, oi, or⟩, ho, hci, h⟩ := h
  have hat := (hW.1 r _ (x_eO (x_n0 hW.2.2 ho) ho)).1
  replace hf : x_fm1 i = some q := hf
  unfold x_fm1 at hf
  split at hf
  · cases hf; cases hci
    rcases v with x | x
    · exact h.elim
    · cases ini
      · exact h.elim
      · exact vx_put (D := D) (ci := 1) (v := mE (x_rho ad) (.inr x)) (ty := (.array (.object RX0))) (C := RX1) (T := TX1) (N := 2) (own := RX1) hx hb hts in_X1 tyX1 tyX1_ok nmX1 hown hK.1 hat rfl 0 (by decide) (hts _ wd_113) (Or.inr ⟨rfl, hini rfl, rfl⟩) rfl x_fitsA.1 x_fitsA.2 (Nat.le_of_ble_eq_true rfl) hd (fun H1 sl ha hz hq => kk _ _ _ _ _ _ _ _ h (x_putO (s0 := s0) (locs := locs) (sl := sl) (o' := (1, oi, va_up or 0 x)) hW hS ho ha hz hq).1 (x_putO (s0 := s0) (locs := locs) (sl := sl) (o' := (1, oi, va_up or 0 x)) hW hS ho ha hz hq).2 hc hs)
  · cases hf; cases hci
    rcases v with x | x
    · exact vx_put (D := D) (ci := 1) (v := .int x) (ty := .int) (C := RX1) (T := TX1) (N := 2) (own := RX1) hx hb hts in_X1 tyX1 tyX1_ok nmX1 hown hK.1 hat rfl 1 (by decide) (hts _ wd_114) (Or.inl rfl) rfl rfl rfl (Nat.le_of_ble_eq_true rfl) hd (fun H1 sl ha hz hq => kk _ _ _ _ _ _ _ _ h (x_putO (s0 := s0) (locs := locs) (sl := sl) (o' := (1, upd oi 1 x, or)) hW hS ho ha hz hq).1 (x_putO (s0 := s0) (locs := locs) (sl := sl) (o' := (1, upd oi 1 x, or)) hW hS ho ha hz hq).2 hc hs)
    · exact h.elim
  · cases hf; cases hci
    rcases v with x | x
    · exact vx_put (D := D) (ci := 0) (v := .int x) (ty := .int) (C := RX0) (T := TX0) (N := 9) (own := RX1) hx hb hts in_X0 tyX0 tyX0_ok nmX0 hown hK.1 hat rfl 0 (by decide) (hts _ wd_177) (Or.inl rfl) rfl rfl rfl (Nat.le_of_ble_eq_true rfl) hd (fun H1 sl ha hz hq => kk _ _ _ _ _ _ _ _ h (x_putO (s0 := s0) (locs := locs) (sl := sl) (o' := (0, upd oi 0 x, or)) hW hS ho ha hz hq).1 (x_putO (s0 := s0) (locs := locs) (sl := sl) (o' := (0, upd oi 0 x, or)) hW hS ho ha hz hq).2 hc hs)
    · exact h.elim
  · cases hf; cases hci
    rcases v with x | x
    · exact h.elim
    · exact vx_put (D := D) (ci := 0) (v := mE (x_rho ad) (.inr x)) (ty := (.object RX0)) (C := RX0) (T := TX0) (N := 9) (own := RX1) hx hb hts in_X0 tyX0 tyX0_ok nmX0 hown hK.1 hat rfl 3 (by decide) (hts _ wd_186) (Or.inl rfl) rfl x_fitsO.1 x_fitsO.2 (Nat.le_of_ble_eq_true rfl) hd (fun H1 sl ha hz hq => kk _ _ _ _ _ _ _ _ h (x_putO (s0 := s0) (locs := locs) (sl := sl) (o' := (0, oi, va_up or 3 x)) hW hS ho ha hz hq).1 (x_putO (s0 := s0) (locs := locs) (sl := sl) (o' := (0, oi, va_up or 3 x)) hW hS ho ha hz hq).2 hc hs)
  · cases hf; cases hci
    rcases v with x | x
    · exact h.elim
    · exact vx_put (D := D) (ci := 0) (v := mE (x_rho ad) (.inr x)) (ty := (.object RX0)) (C := RX0) (T := TX0) (N := 9) (own := RX1) hx hb hts in_X0 tyX0 tyX0_ok nmX0 hown hK.1 hat rfl 4 (by decide) (hts _ wd_191) (Or.inl rfl) rfl x_fitsO.1 x_fitsO.2 (Nat.le_of_ble_eq_true rfl) hd (fun H1 sl ha hz hq => kk _ _ _ _ _ _ _ _ h (x_putO (s0 := s0) (locs := locs) (sl := sl) (o' := (0, oi, va_up or 4 x)) hW hS ho ha hz hq).1 (x_putO (s0 := s0) (locs := locs) (sl := sl) (o' := (0, oi, va_up or 4 x)) hW hS ho ha hz hq).2 hc hs)
  · cases hf
set_option maxHeartbeats 8000000 in
set_option maxRecDepth 20000 in
theorem x_get_2 (F : CallFix p m c cc nL s0 args tb RX2) (hK : kk D cs (fun i => ad (22 + i)) A s0) {i len pc : Nat} {st : List mV} {s : xS} {a b : Nat} {k : List mV → xS → Nat → Nat → Prop} {ini : Bool} (h : x_hk ini 2 (.getfield i) st s a b k) (hd : decode cc pc = .ok (.getfield i, 3)) {H : Heap} {locs : List Loc} {cells slots : Nat} {ls : Array Slot} (hW : x_W D cs ad A s H) (hS : va_S A s0.heap H locs) (hc : cells + a ≤ R.cells) (hs : slots + b ≤ R.slots)
    (kk : ∀ (st' : List mV) (s' : xS) (a' b' : Nat) (H' : Heap) (locs' : List Loc) (cells' slots' : Nat), k st' s' a' b' → x_W D cs ad A s' H' → va_S A s0.heap H' locs' → cells' + a' ≤ R.cells → slots' + b' ≤ R.slots → W p l e R s0 m args below meth c H' locs' cells' slots' Q (F0 m (pc + 3) ls (st'.map (mE (x_rho ad))))) :
    W p l e R s0 m args below meth c H locs cells slots Q (F0 m pc ls (st.map (mE (x_rho ad)))) := by
  obtain ⟨hx, hb, hml, hown, hts⟩ := F
  unfold x_hk at h
  dsimp only at h
  split at h <;> (try exact h.elim)
  rename_i r st'
  split at h <;> (try exact h.elim)
  rename_i q hf
  obtain ⟨⟨ci, oi, or⟩, ho, hci, h⟩ := h
  have hat := (hW.1 r _ (x_eO (x_n0 hW.2.2 ho) ho)).1
  replace hf : x_fm2 i = some q := hf
  unfold x_fm2 at hf
  split at hf
  · cases hf; cases hci; exact va_get (D := D) (ci := 2) (v := mE (x_rho ad) (.inr (or 0))) (C := RX2) (T := TX2) (N := 4) (own := RX2) (ref := RX2) hx hb hts in_X2 hown hK.1 (vx_P1 hat) 0 rfl rfl 0 (by decide) (hts _ wd_91) (fun _ h9 => h9) rfl hd (kk _ _ _ _ _ _ _ _ h hW hS hc hs)
  · cases hf; cases hci; exact va_get (D := D) (ci := 2) (v := mE (x_rho ad) (.inr (or 1))) (C := RX2) (T := TX2) (N := 4) (own := RX2) (ref := RX2) hx hb hts in_X2 hown hK.1 (vx_P1 hat) 0 rfl rfl 1 (by decide) (hts _ wd_92) (fun _ h9 => h9) rfl hd (kk _ _ _ _ _ _ _ _ h hW hS hc hs)
  · cases hf; cases hci; exact va_get (D := D) (ci := 2) (v := mE (x_rho ad) (.inl (oi 2))) (C := RX2) (T := TX2) (N := 4) (own := RX2) (ref := RX2) hx hb hts in_X2 hown hK.1 (vx_P1 hat) 0 rfl rfl 2 (by decide) (hts _ wd_93) (fun _ h9 => h9) rfl hd (kk _ _ _ _ _ _ _ _ h hW hS hc hs)
  · cases hf; cases hci; exact va_get (D := D) (ci := 2) (v := mE (x_rho ad) (.inl (oi 3))) (C := RX2) (T := TX2) (N := 4) (own := RX2) (ref := RX2) hx hb hts in_X2 hown hK.1 (vx_P1 hat) 0 rfl rfl 3 (by decide) (hts _ wd_95) (fun _ h9 => h9) rfl hd (kk _ _ _ _ _ _ _ _ h hW hS hc hs)
  · cases hf
set_option maxHeartbeats 8000000 in
set_option maxRecDepth 20000 in
theorem x_put_2 (F : CallFix p m c cc nL s0 args tb RX2) (hK : kk D cs (fun i => ad (22 + i)) A s0) {i len pc : Nat} {st : List mV} {s : xS} {a b : Nat} {k : List mV → xS → Nat → Nat → Prop} {ini : Bool} (hini : ini = true → meth.name = "<init>") (h : x_hk ini 2 (.putfield i) st s a b k) (hd : decode cc pc = .ok (.putfield i, 3)) {H : Heap} {locs : List Loc} {cells slots : Nat} {ls : Array Slot} (hW : x_W D cs ad A s H) (hS : va_S A s0.heap H locs) (hc : cells + a ≤ R.cells) (hs : slots + b ≤ R.slots)
    (kk : ∀ (st' : List mV) (s' : xS) (a' b' : Nat) (H' : Heap) (locs' : List Loc) (cells' slots' : Nat), k st' s' a' b' → x_W D cs ad A s' H' → va_S A s0.heap H' locs' → cells' + a' ≤ R.cells → slots' + b' ≤ R.slots → W p l e R s0 m args below meth c H' locs' cells' slots' Q (F0 m (pc + 3) ls (st'.map (mE (x_rho ad))))) :
    W p l e R s0 m args below meth c H locs cells slots Q (F0 m pc ls (st.map (mE (x_rho ad)))) := by
  obtain ⟨hx, hb, hml, hown, hts⟩ := F
  unfold x_hk at h
  dsimp only at h
  split at h <;> (try exact h.elim)
  rename_i v r st'
  split at h <;> (try exact h.elim)
  rename_i q hf
  obtain ⟨⟨ci, oi, or⟩, ho, hci, h⟩ := h
  have hat := (hW.1 r _ (x_eO (x_n0 hW.2.2 ho) ho)).1
  replace hf : x_fm2 i = some q := hf
  unfold x_fm2 at hf
  split at hf
  · cases hf; cases hci
    rcases v with x | x
    · exact h.elim
    · cases ini
      · exact h.elim
      · exact vx_put (D := D) (ci := 2) (v := mE (x_rho ad) (.inr x)) (ty := (.array (.object RX0))) (C := RX2) (T := TX2) (N := 4) (own := RX2) hx hb hts in_X2 tyX2 tyX2_ok nmX2 hown hK.1 hat rfl 0 (by decide) (hts _ wd_91) (Or.inr ⟨rfl, hini rfl, rfl⟩) rfl x_fitsA.1 x_fitsA.2 (Nat.le_of_ble_eq_true rfl) hd (fun H1 sl ha hz hq => kk _ _ _ _ _ _ _ _ h (x_putO (s0 := s0) (locs := locs) (sl := sl) (o' := (2, oi, va_up or 0 x)) hW hS ho ha hz hq).1 (x_putO (s0 := s0) (locs := locs) (sl := sl) (o' := (2, oi, va_up or 0 x)) hW hS ho ha hz hq).2 hc hs)
  · cases hf; cases hci
    rcases v with x | x
    · exact h.elim
    · cases ini
      · exact h.elim
      · exact vx_put (D := D) (ci := 2) (v := mE (x_rho ad) (.inr x)) (ty := (.array .int)) (C := RX2) (T := TX2) (N := 4) (own := RX2) hx hb hts in_X2 tyX2 tyX2_ok nmX2 hown hK.1 hat rfl 1 (by decide) (hts _ wd_92) (Or.inr ⟨rfl, hini rfl, rfl⟩) rfl x_fitsA.1 x_fitsA.2 (Nat.le_of_ble_eq_true rfl) hd (fun H1 sl ha hz hq => kk _ _ _ _ _ _ _ _ h (x_putO (s0 := s0) (locs := locs) (sl := sl) (o' := (2, oi, va_up or 1 x)) hW hS ho ha hz hq).1 (x_putO (s0 := s0) (locs := locs) (sl := sl) (o' := (2, oi, va_up or 1 x)) hW hS ho ha hz hq).2 hc hs)
  · cases hf; cases hci
    rcases v with x | x
    · exact vx_put (D := D) (ci := 2) (v := .int x) (ty := .int) (C := RX2) (T := TX2) (N := 4) (own := RX2) hx hb hts in_X2 tyX2 tyX2_ok nmX2 hown hK.1 hat rfl 2 (by decide) (hts _ wd_93) (Or.inl rfl) rfl rfl rfl (Nat.le_of_ble_eq_true rfl) hd (fun H1 sl ha hz hq => kk _ _ _ _ _ _ _ _ h (x_putO (s0 := s0) (locs := locs) (sl := sl) (o' := (2, upd oi 2 x, or)) hW hS ho ha hz hq).1 (x_putO (s0 := s0) (locs := locs) (sl := sl) (o' := (2, upd oi 2 x, or)) hW hS ho ha hz hq).2 hc hs)
    · exact h.elim
  · cases hf; cases hci
    rcases v with x | x
    · exact vx_put (D := D) (ci := 2) (v := .int x) (ty := .int) (C := RX2) (T := TX2) (N := 4) (own := RX2) hx hb hts in_X2 tyX2 tyX2_ok nmX2 hown hK.1 hat rfl 3 (by decide) (hts _ wd_95) (Or.inl rfl) rfl rfl rfl (Nat.le_of_ble_eq_true rfl) hd (fun H1 sl ha hz hq => kk _ _ _ _ _ _ _ _ h (x_putO (s0 := s0) (locs := locs) (sl := sl) (o' := (2, upd oi 3 x, or)) hW hS ho ha hz hq).1 (x_putO (s0 := s0) (locs := locs) (sl := sl) (o' := (2, upd oi 3 x, or)) hW hS ho ha hz hq).2 hc hs)
    · exact h.elim
  · cases hf
set_option maxHeartbeats 8000000 in
set_option maxRecDepth 20000 in
theorem x_get_3 (F : CallFix p m c cc nL s0 args tb RX3) (hK : kk D cs (fun i => ad (22 + i)) A s0) {i len pc : Nat} {st : List mV} {s : xS} {a b : Nat} {k : List mV → xS → Nat → Nat → Prop} {ini : Bool} (h : x_hk ini 3 (.getfield i) st s a b k) (hd : decode cc pc = .ok (.getfield i, 3)) {H : Heap} {locs : List Loc} {cells slots : Nat} {ls : Array Slot} (hW : x_W D cs ad A s H) (hS : va_S A s0.heap H locs) (hc : cells + a ≤ R.cells) (hs : slots + b ≤ R.slots)
    (kk : ∀ (st' : List mV) (s' : xS) (a' b' : Nat) (H' : Heap) (locs' : List Loc) (cells' slots' : Nat), k st' s' a' b' → x_W D cs ad A s' H' → va_S A s0.heap H' locs' → cells' + a' ≤ R.cells → slots' + b' ≤ R.slots → W p l e R s0 m args below meth c H' locs' cells' slots' Q (F0 m (pc + 3) ls (st'.map (mE (x_rho ad))))) :
    W p l e R s0 m args below meth c H locs cells slots Q (F0 m pc ls (st.map (mE (x_rho ad)))) := by
  obtain ⟨hx, hb, hml, hown, hts⟩ := F
  unfold x_hk at h
  dsimp only at h
  split at h <;> (try exact h.elim)
  rename_i r st'
  split at h <;> (try exact h.elim)
  rename_i q hf
  obtain ⟨⟨ci, oi, or⟩, ho, hci, h⟩ := h
  have hat := (hW.1 r _ (x_eO (x_n0 hW.2.2 ho) ho)).1
  replace hf : x_fm3 i = some q := hf
  unfold x_fm3 at hf
  split at hf
  · cases hf; cases hci; exact va_get (D := D) (ci := 3) (v := mE (x_rho ad) (.inr (or 0))) (C := RX3) (T := TX3) (N := 2) (own := RX3) (ref := RX3) hx hb hts in_X3 hown hK.1 (vx_P1 hat) 0 rfl rfl 0 (by decide) (hts _ wd_74) (fun _ h9 => h9) rfl hd (kk _ _ _ _ _ _ _ _ h hW hS hc hs)
  · cases hf; cases hci; exact va_get (D := D) (ci := 3) (v := mE (x_rho ad) (.inl (oi 1))) (C := RX3) (T := TX3) (N := 2) (own := RX3) (ref := RX3) hx hb hts in_X3 hown hK.1 (vx_P1 hat) 0 rfl rfl 1 (by decide) (hts _ wd_75) (fun _ h9 => h9) rfl hd (kk _ _ _ _ _ _ _ _ h hW hS hc hs)
  · cases hf; cases hci; exact va_get (D := D) (ci := 0) (v := mE (x_rho ad) (.inl (oi 0))) (C := RX0) (T := TX0) (N := 9) (own := RX3) (ref := RX0) hx hb hts in_X0 hown hK.1 (vx_P1 hat) 0 rfl rfl 0 (by decide) (hts _ wd_179) (fun _ h9 => h9) rfl hd (kk _ _ _ _ _ _ _ _ h hW hS hc hs)
  · cases hf; cases hci; exact va_get (D := D) (ci := 0) (v := mE (x_rho ad) (.inr (or 3))) (C := RX0) (T := TX0) (N := 9) (own := RX3) (ref := RX0) hx hb hts in_X0 hown hK.1 (vx_P1 hat) 0 rfl rfl 3 (by decide) (hts _ wd_190) (fun _ h9 => h9) rfl hd (kk _ _ _ _ _ _ _ _ h hW hS hc hs)
  · cases hf; cases hci; exact va_get (D := D) (ci := 0) (v := mE (x_rho ad) (.inr (or 4))) (C := RX0) (T := TX0) (N := 9) (own := RX3) (ref := RX0) hx hb hts in_X0 hown hK.1 (vx_P1 hat) 0 rfl rfl 4 (by decide) (hts _ wd_195) (fun _ h9 => h9) rfl hd (kk _ _ _ _ _ _ _ _ h hW hS hc hs)
  · cases hf; cases hci; exact va_get (D := D) (ci := 0) (v := mE (x_rho ad) (.inr (or 5))) (C := RX0) (T := TX0) (N := 9) (own := RX3) (ref := RX0) hx hb hts in_X0 hown hK.1 (vx_P1 hat) 0 rfl rfl 5 (by decide) (hts _ wd_198) (fun _ h9 => h9) rfl hd (kk _ _ _ _ _ _ _ _ h hW hS hc hs)
  · cases hf; cases hci; exact va_get (D := D) (ci := 0) (v := mE (x_rho ad) (.inl (oi 6))) (C := RX0) (T := TX0) (N := 9) (own := RX3) (ref := RX0) hx hb hts in_X0 hown hK.1 (vx_P1 hat) 0 rfl rfl 6 (by decide) (hts _ wd_202) (fun _ h9 => h9) rfl hd (kk _ _ _ _ _ _ _ _ h hW hS hc hs)
  · cases hf; cases hci; exact va_get (D := D) (ci := 0) (v := mE (x_rho ad) (.inl (oi 1))) (C := RX0) (T := TX0) (N := 9) (own := RX3) (ref := RX0) hx hb hts in_X0 hown hK.1 (vx_P1 hat) 0 rfl rfl 1 (by decide) (hts _ wd_184) (fun _ h9 => h9) rfl hd (kk _ _ _ _ _ _ _ _ h hW hS hc hs)
  · cases hf
set_option maxHeartbeats 8000000 in
set_option maxRecDepth 20000 in
theorem x_put_3 (F : CallFix p m c cc nL s0 args tb RX3) (hK : kk D cs (fun i => ad (22 + i)) A s0) {i len pc : Nat} {st : List mV} {s : xS} {a b : Nat} {k : List mV → xS → Nat → Nat → Prop} {ini : Bool} (hini : ini = true → meth.name = "<init>") (h : x_hk ini 3 (.putfield i) st s a b k) (hd : decode cc pc = .ok (.putfield i, 3)) {H : Heap} {locs : List Loc} {cells slots : Nat} {ls : Array Slot} (hW : x_W D cs ad A s H) (hS : va_S A s0.heap H locs) (hc : cells + a ≤ R.cells) (hs : slots + b ≤ R.slots)
    (kk : ∀ (st' : List mV) (s' : xS) (a' b' : Nat) (H' : Heap) (locs' : List Loc) (cells' slots' : Nat), k st' s' a' b' → x_W D cs ad A s' H' → va_S A s0.heap H' locs' → cells' + a' ≤ R.cells → slots' + b' ≤ R.slots → W p l e R s0 m args below meth c H' locs' cells' slots' Q (F0 m (pc + 3) ls (st'.map (mE (x_rho ad))))) :
    W p l e R s0 m args below meth c H locs cells slots Q (F0 m pc ls (st.map (mE (x_rho ad)))) := by
  obtain ⟨hx, hb, hml, hown, hts⟩ := F
  unfold x_hk at h
  dsimp only at h
  split at h <;> (try exact h.elim)
  rename_i v r st'
  split at h <;> (try exact h.elim)
  rename_i q hf
  obtain ⟨⟨ci, oi, or⟩, ho, hci, h⟩ := h
  have hat := (hW.1 r _ (x_eO (x_n0 hW.2.2 ho) ho)).1
  replace hf : x_fm3 i = some q := hf
  unfold x_fm3 at hf
  split at hf
  · cases hf; cases hci
    rcases v with x | x
    · exact h.elim
    · cases ini
      · exact h.elim
      · exact vx_put (D := D) (ci := 3) (v := mE (x_rho ad) (.inr x)) (ty := (.array .int)) (C := RX3) (T := TX3) (N := 2) (own := RX3) hx hb hts in_X3 tyX3 tyX3_ok nmX3 hown hK.1 hat rfl 0 (by decide) (hts _ wd_74) (Or.inr ⟨rfl, hini rfl, rfl⟩) rfl x_fitsA.1 x_fitsA.2 (Nat.le_of_ble_eq_true rfl) hd (fun H1 sl ha hz hq => kk _ _ _ _ _ _ _ _ h (x_putO (s0 := s0) (locs := locs) (sl := sl) (o' := (3, oi, va_up or 0 x)) hW hS ho ha hz hq).1 (x_putO (s0 := s0) (locs := locs) (sl := sl) (o' := (3, oi, va_up or 0 x)) hW hS ho ha hz hq).2 hc hs)
  · cases hf; cases hci
    rcases v with x | x
    · exact vx_put (D := D) (ci := 3) (v := .int x) (ty := .int) (C := RX3) (T := TX3) (N := 2) (own := RX3) hx hb hts in_X3 tyX3 tyX3_ok nmX3 hown hK.1 hat rfl 1 (by decide) (hts _ wd_75) (Or.inl rfl) rfl rfl rfl (Nat.le_of_ble_eq_true rfl) hd (fun H1 sl ha hz hq => kk _ _ _ _ _ _ _ _ h (x_putO (s0 := s0) (locs := locs) (sl := sl) (o' := (3, upd oi 1 x, or)) hW hS ho ha hz hq).1 (x_putO (s0 := s0) (locs := locs) (sl := sl) (o' := (3, upd oi 1 x, or)) hW hS ho ha hz hq).2 hc hs)
    · exact h.elim
  · cases hf; cases hci
    rcases v with x | x
    · exact vx_put (D := D) (ci := 0) (v := .int x) (ty := .int) (C := RX0) (T := TX0) (N := 9) (own := RX3) hx hb hts in_X0 tyX0 tyX0_ok nmX0 hown hK.1 hat rfl 0 (by decide) (hts _ wd_179) (Or.inl rfl) rfl rfl rfl (Nat.le_of_ble_eq_true rfl) hd (fun H1 sl ha hz hq => kk _ _ _ _ _ _ _ _ h (x_putO (s0 := s0) (locs := locs) (sl := sl) (o' := (0, upd oi 0 x, or)) hW hS ho ha hz hq).1 (x_putO (s0 := s0) (locs := locs) (sl := sl) (o' := (0, upd oi 0 x, or)) hW hS ho ha hz hq).2 hc hs)
    · exact h.elim
  · cases hf; cases hci
    rcases v with x | x
    · exact h.elim
    · exact vx_put (D := D) (ci := 0) (v := mE (x_rho ad) (.inr x)) (ty := (.object RX0)) (C := RX0) (T := TX0) (N := 9) (own := RX3) hx hb hts in_X0 tyX0 tyX0_ok nmX0 hown hK.1 hat rfl 3 (by decide) (hts _ wd_190) (Or.inl rfl) rfl x_fitsO.1 x_fitsO.2 (Nat.le_of_ble_eq_true rfl) hd (fun H1 sl ha hz hq => kk _ _ _ _ _ _ _ _ h (x_putO (s0 := s0) (locs := locs) (sl := sl) (o' := (0, oi, va_up or 3 x)) hW hS ho ha hz hq).1 (x_putO (s0 := s0) (locs := locs) (sl := sl) (o' := (0, oi, va_up or 3 x)) hW hS ho ha hz hq).2 hc hs)
  · cases hf; cases hci
    rcases v with x | x
    · exact h.elim
    · exact vx_put (D := D) (ci := 0) (v := mE (x_rho ad) (.inr x)) (ty := (.object RX0)) (C := RX0) (T := TX0) (N := 9) (own := RX3) hx hb hts in_X0 tyX0 tyX0_ok nmX0 hown hK.1 hat rfl 4 (by decide) (hts _ wd_195) (Or.inl rfl) rfl x_fitsO.1 x_fitsO.2 (Nat.le_of_ble_eq_true rfl) hd (fun H1 sl ha hz hq => kk _ _ _ _ _ _ _ _ h (x_putO (s0 := s0) (locs := locs) (sl := sl) (o' := (0, oi, va_up or 4 x)) hW hS ho ha hz hq).1 (x_putO (s0 := s0) (locs := locs) (sl := sl) (o' := (0, oi, va_up or 4 x)) hW hS ho ha hz hq).2 hc hs)
  · cases hf; cases hci
    rcases v with x | x
    · exact h.elim
    · exact vx_put (D := D) (ci := 0) (v := mE (x_rho ad) (.inr x)) (ty := (.object RX0)) (C := RX0) (T := TX0) (N := 9) (own := RX3) hx hb hts in_X0 tyX0 tyX0_ok nmX0 hown hK.1 hat rfl 5 (by decide) (hts _ wd_198) (Or.inl rfl) rfl x_fitsO.1 x_fitsO.2 (Nat.le_of_ble_eq_true rfl) hd (fun H1 sl ha hz hq => kk _ _ _ _ _ _ _ _ h (x_putO (s0 := s0) (locs := locs) (sl := sl) (o' := (0, oi, va_up or 5 x)) hW hS ho ha hz hq).1 (x_putO (s0 := s0) (locs := locs) (sl := sl) (o' := (0, oi, va_up or 5 x)) hW hS ho ha hz hq).2 hc hs)
  · cases hf; cases hci
    rcases v with x | x
    · exact vx_put (D := D) (ci := 0) (v := .int x) (ty := .int) (C := RX0) (T := TX0) (N := 9) (own := RX3) hx hb hts in_X0 tyX0 tyX0_ok nmX0 hown hK.1 hat rfl 6 (by decide) (hts _ wd_202) (Or.inl rfl) rfl rfl rfl (Nat.le_of_ble_eq_true rfl) hd (fun H1 sl ha hz hq => kk _ _ _ _ _ _ _ _ h (x_putO (s0 := s0) (locs := locs) (sl := sl) (o' := (0, upd oi 6 x, or)) hW hS ho ha hz hq).1 (x_putO (s0 := s0) (locs := locs) (sl := sl) (o' := (0, upd oi 6 x, or)) hW hS ho ha hz hq).2 hc hs)
    · exact h.elim
  · cases hf; cases hci
    rcases v with x | x
    · exact vx_put (D := D) (ci := 0) (v := .int x) (ty := .int) (C := RX0) (T := TX0) (N := 9) (own := RX3) hx hb hts in_X0 tyX0 tyX0_ok nmX0 hown hK.1 hat rfl 1 (by decide) (hts _ wd_184) (Or.inl rfl) rfl rfl rfl (Nat.le_of_ble_eq_true rfl) hd (fun H1 sl ha hz hq => kk _ _ _ _ _ _ _ _ h (x_putO (s0 := s0) (locs := locs) (sl := sl) (o' := (0, upd oi 1 x, or)) hW hS ho ha hz hq).1 (x_putO (s0 := s0) (locs := locs) (sl := sl) (o' := (0, upd oi 1 x, or)) hW hS ho ha hz hq).2 hc hs)
    · exact h.elim
  · cases hf
set_option maxHeartbeats 8000000 in
set_option maxRecDepth 20000 in
theorem x_get_4 (F : CallFix p m c cc nL s0 args tb RX4) (hK : kk D cs (fun i => ad (22 + i)) A s0) {i len pc : Nat} {st : List mV} {s : xS} {a b : Nat} {k : List mV → xS → Nat → Nat → Prop} {ini : Bool} (h : x_hk ini 4 (.getfield i) st s a b k) (hd : decode cc pc = .ok (.getfield i, 3)) {H : Heap} {locs : List Loc} {cells slots : Nat} {ls : Array Slot} (hW : x_W D cs ad A s H) (hS : va_S A s0.heap H locs) (hc : cells + a ≤ R.cells) (hs : slots + b ≤ R.slots)
    (kk : ∀ (st' : List mV) (s' : xS) (a' b' : Nat) (H' : Heap) (locs' : List Loc) (cells' slots' : Nat), k st' s' a' b' → x_W D cs ad A s' H' → va_S A s0.heap H' locs' → cells' + a' ≤ R.cells → slots' + b' ≤ R.slots → W p l e R s0 m args below meth c H' locs' cells' slots' Q (F0 m (pc + 3) ls (st'.map (mE (x_rho ad))))) :
    W p l e R s0 m args below meth c H locs cells slots Q (F0 m pc ls (st.map (mE (x_rho ad)))) := by
  obtain ⟨hx, hb, hml, hown, hts⟩ := F
  unfold x_hk at h
  dsimp only at h
  split at h <;> (try exact h.elim)
  rename_i r st'
  split at h <;> (try exact h.elim)
  rename_i q hf
  obtain ⟨⟨ci, oi, or⟩, ho, hci, h⟩ := h
  have hat := (hW.1 r _ (x_eO (x_n0 hW.2.2 ho) ho)).1
  replace hf : x_fm4 i = some q := hf
  unfold x_fm4 at hf
  split at hf
  · cases hf; cases hci; exact va_get (D := D) (ci := 4) (v := mE (x_rho ad) (.inl (oi 0))) (C := RX4) (T := TX4) (N := 3) (own := RX4) (ref := RX4) hx hb hts in_X4 hown hK.1 (vx_P1 hat) 0 rfl rfl 0 (by decide) (hts _ wd_155) (fun _ h9 => h9) rfl hd (kk _ _ _ _ _ _ _ _ h hW hS hc hs)
  · cases hf; cases hci; exact va_get (D := D) (ci := 0) (v := mE (x_rho ad) (.inl (oi 8))) (C := RX0) (T := TX0) (N := 9) (own := RX4) (ref := RX0) hx hb hts in_X0 hown hK.1 (vx_P1 hat) 0 rfl rfl 8 (by decide) (hts _ wd_206) (fun _ h9 => h9) rfl hd (kk _ _ _ _ _ _ _ _ h hW hS hc hs)
  · cases hf; cases hci; exact va_get (D := D) (ci := 4) (v := mE (x_rho ad) (.inl (oi 1))) (C := RX4) (T := TX4) (N := 3) (own := RX4) (ref := RX4) hx hb hts in_X4 hown hK.1 (vx_P1 hat) 0 rfl rfl 1 (by decide) (hts _ wd_156) (fun _ h9 => h9) rfl hd (kk _ _ _ _ _ _ _ _ h hW hS hc hs)
  · cases hf; cases hci; exact va_get (D := D) (ci := 4) (v := mE (x_rho ad) (.inl (oi 2))) (C := RX4) (T := TX4) (N := 3) (own := RX4) (ref := RX4) hx hb hts in_X4 hown hK.1 (vx_P1 hat) 0 rfl rfl 2 (by decide) (hts _ wd_158) (fun _ h9 => h9) rfl hd (kk _ _ _ _ _ _ _ _ h hW hS hc hs)
  · cases hf; cases hci; exact va_get (D := D) (ci := 0) (v := mE (x_rho ad) (.inr (or 3))) (C := RX0) (T := TX0) (N := 9) (own := RX4) (ref := RX0) hx hb hts in_X0 hown hK.1 (vx_P1 hat) 0 rfl rfl 3 (by decide) (hts _ wd_189) (fun _ h9 => h9) rfl hd (kk _ _ _ _ _ _ _ _ h hW hS hc hs)
  · cases hf; cases hci; exact va_get (D := D) (ci := 0) (v := mE (x_rho ad) (.inr (or 4))) (C := RX0) (T := TX0) (N := 9) (own := RX4) (ref := RX0) hx hb hts in_X0 hown hK.1 (vx_P1 hat) 0 rfl rfl 4 (by decide) (hts _ wd_194) (fun _ h9 => h9) rfl hd (kk _ _ _ _ _ _ _ _ h hW hS hc hs)
  · cases hf; cases hci; exact va_get (D := D) (ci := 0) (v := mE (x_rho ad) (.inr (or 5))) (C := RX0) (T := TX0) (N := 9) (own := RX4) (ref := RX0) hx hb hts in_X0 hown hK.1 (vx_P1 hat) 0 rfl rfl 5 (by decide) (hts _ wd_197) (fun _ h9 => h9) rfl hd (kk _ _ _ _ _ _ _ _ h hW hS hc hs)
  · cases hf
set_option maxHeartbeats 8000000 in
set_option maxRecDepth 20000 in
theorem x_put_4 (F : CallFix p m c cc nL s0 args tb RX4) (hK : kk D cs (fun i => ad (22 + i)) A s0) {i len pc : Nat} {st : List mV} {s : xS} {a b : Nat} {k : List mV → xS → Nat → Nat → Prop} {ini : Bool} (hini : ini = true → meth.name = "<init>") (h : x_hk ini 4 (.putfield i) st s a b k) (hd : decode cc pc = .ok (.putfield i, 3)) {H : Heap} {locs : List Loc} {cells slots : Nat} {ls : Array Slot} (hW : x_W D cs ad A s H) (hS : va_S A s0.heap H locs) (hc : cells + a ≤ R.cells) (hs : slots + b ≤ R.slots)
    (kk : ∀ (st' : List mV) (s' : xS) (a' b' : Nat) (H' : Heap) (locs' : List Loc) (cells' slots' : Nat), k st' s' a' b' → x_W D cs ad A s' H' → va_S A s0.heap H' locs' → cells' + a' ≤ R.cells → slots' + b' ≤ R.slots → W p l e R s0 m args below meth c H' locs' cells' slots' Q (F0 m (pc + 3) ls (st'.map (mE (x_rho ad))))) :
    W p l e R s0 m args below meth c H locs cells slots Q (F0 m pc ls (st.map (mE (x_rho ad)))) := by
  obtain ⟨hx, hb, hml, hown, hts⟩ := F
  unfold x_hk at h
  dsimp only at h
  split at h <;> (try exact h.elim)
  rename_i v r st'
  split at h <;> (try exact h.elim)
  rename_i q hf
  obtain ⟨⟨ci, oi, or⟩, ho, hci, h⟩ := h
  have hat := (hW.1 r _ (x_eO (x_n0 hW.2.2 ho) ho)).1
  replace hf : x_fm4 i = some q := hf
  unfold x_fm4 at hf
  split at hf
  · cases hf; cases hci
    rcases v with x | x
    · exact vx_put (D := D) (ci := 4) (v := .int x) (ty := .int) (C := RX4) (T := TX4) (N := 3) (own := RX4) hx hb hts in_X4 tyX4 tyX4_ok nmX4 hown hK.1 hat rfl 0 (by decide) (hts _ wd_155) (Or.inl rfl) rfl rfl rfl (Nat.le_of_ble_eq_true rfl) hd (fun H1 sl ha hz hq => kk _ _ _ _ _ _ _ _ h (x_putO (s0 := s0) (locs := locs) (sl := sl) (o' := (4, upd oi 0 x, or)) hW hS ho ha hz hq).1 (x_putO (s0 := s0) (locs := locs) (sl := sl) (o' := (4, upd oi 0 x, or)) hW hS ho ha hz hq).2 hc hs)
    · exact h.elim
  · cases hf; cases hci
    rcases v with x | x
    · exact vx_put (D := D) (ci := 0) (v := .int x) (ty := .int) (C := RX0) (T := TX0) (N := 9) (own := RX4) hx hb hts in_X0 tyX0 tyX0_ok nmX0 hown hK.1 hat rfl 8 (by decide) (hts _ wd_206) (Or.inl rfl) rfl rfl rfl (Nat.le_of_ble_eq_true rfl) hd (fun H1 sl ha hz hq => kk _ _ _ _ _ _ _ _ h (x_putO (s0 := s0) (locs := locs) (sl := sl) (o' := (0, upd oi 8 x, or)) hW hS ho ha hz hq).1 (x_putO (s0 := s0) (locs := locs) (sl := sl) (o' := (0, upd oi 8 x, or)) hW hS ho ha hz hq).2 hc hs)
    · exact h.elim
  · cases hf; cases hci
    rcases v with x | x
    · exact vx_put (D := D) (ci := 4) (v := .int x) (ty := .int) (C := RX4) (T := TX4) (N := 3) (own := RX4) hx hb hts in_X4 tyX4 tyX4_ok nmX4 hown hK.1 hat rfl 1 (by decide) (hts _ wd_156) (Or.inl rfl) rfl rfl rfl (Nat.le_of_ble_eq_true rfl) hd (fun H1 sl ha hz hq => kk _ _ _ _ _ _ _ _ h (x_putO (s0 := s0) (locs := locs) (sl := sl) (o' := (4, upd oi 1 x, or)) hW hS ho ha hz hq).1 (x_putO (s0 := s0) (locs := locs) (sl := sl) (o' := (4, upd oi 1 x, or)) hW hS ho ha hz hq).2 hc hs)
    · exact h.elim
  · cases hf; cases hci
    rcases v with x | x
    · exact vx_put (D := D) (ci := 4) (v := .int x) (ty := .int) (C := RX4) (T := TX4) (N := 3) (own := RX4) hx hb hts in_X4 tyX4 tyX4_ok nmX4 hown hK.1 hat rfl 2 (by decide) (hts _ wd_158) (Or.inl rfl) rfl rfl rfl (Nat.le_of_ble_eq_true rfl) hd (fun H1 sl ha hz hq => kk _ _ _ _ _ _ _ _ h (x_putO (s0 := s0) (locs := locs) (sl := sl) (o' := (4, upd oi 2 x, or)) hW hS ho ha hz hq).1 (x_putO (s0 := s0) (locs := locs) (sl := sl) (o' := (4, upd oi 2 x, or)) hW hS ho ha hz hq).2 hc hs)
    · exact h.elim
  · cases hf; cases hci
    rcases v with x | x
    · exact h.elim
    · exact vx_put (D := D) (ci := 0) (v := mE (x_rho ad) (.inr x)) (ty := (.object RX0)) (C := RX0) (T := TX0) (N := 9) (own := RX4) hx hb hts in_X0 tyX0 tyX0_ok nmX0 hown hK.1 hat rfl 3 (by decide) (hts _ wd_189) (Or.inl rfl) rfl x_fitsO.1 x_fitsO.2 (Nat.le_of_ble_eq_true rfl) hd (fun H1 sl ha hz hq => kk _ _ _ _ _ _ _ _ h (x_putO (s0 := s0) (locs := locs) (sl := sl) (o' := (0, oi, va_up or 3 x)) hW hS ho ha hz hq).1 (x_putO (s0 := s0) (locs := locs) (sl := sl) (o' := (0, oi, va_up or 3 x)) hW hS ho ha hz hq).2 hc hs)
  · cases hf; cases hci
    rcases v with x | x
    · exact h.elim
    · exact vx_put (D := D) (ci := 0) (v := mE (x_rho ad) (.inr x)) (ty := (.object RX0)) (C := RX0) (T := TX0) (N := 9) (own := RX4) hx hb hts in_X0 tyX0 tyX0_ok nmX0 hown hK.1 hat rfl 4 (by decide) (hts _ wd_194) (Or.inl rfl) rfl x_fitsO.1 x_fitsO.2 (Nat.le_of_ble_eq_true rfl) hd (fun H1 sl ha hz hq => kk _ _ _ _ _ _ _ _ h (x_putO (s0 := s0) (locs := locs) (sl := sl) (o' := (0, oi, va_up or 4 x)) hW hS ho ha hz hq).1 (x_putO (s0 := s0) (locs := locs) (sl := sl) (o' := (0, oi, va_up or 4 x)) hW hS ho ha hz hq).2 hc hs)
  · cases hf; cases hci
    rcases v with x | x
    · exact h.elim
    · exact vx_put (D := D) (ci := 0) (v := mE (x_rho ad) (.inr x)) (ty := (.object RX0)) (C := RX0) (T := TX0) (N := 9) (own := RX4) hx hb hts in_X0 tyX0 tyX0_ok nmX0 hown hK.1 hat rfl 5 (by decide) (hts _ wd_197) (Or.inl rfl) rfl x_fitsO.1 x_fitsO.2 (Nat.le_of_ble_eq_true rfl) hd (fun H1 sl ha hz hq => kk _ _ _ _ _ _ _ _ h (x_putO (s0 := s0) (locs := locs) (sl := sl) (o' := (0, oi, va_up or 5 x)) hW hS ho ha hz hq).1 (x_putO (s0 := s0) (locs := locs) (sl := sl) (o' := (0, oi, va_up or 5 x)) hW hS ho ha hz hq).2 hc hs)
  · cases hf
set_option maxHeartbeats 8000000 in
set_option maxRecDepth 20000 in
theorem x_get_5 (F : CallFix p m c cc nL s0 args tb RX5) (hK : kk D cs (fun i => ad (22 + i)) A s0) {i len pc : Nat} {st : List mV} {s : xS} {a b : Nat} {k : List mV → xS → Nat → Nat → Prop} {ini : Bool} (h : x_hk ini 5 (.getfield i) st s a b k) (hd : decode cc pc = .ok (.getfield i, 3)) {H : Heap} {locs : List Loc} {cells slots : Nat} {ls : Array Slot} (hW : x_W D cs ad A s H) (hS : va_S A s0.heap H locs) (hc : cells + a ≤ R.cells) (hs : slots + b ≤ R.slots)
    (kk : ∀ (st' : List mV) (s' : xS) (a' b' : Nat) (H' : Heap) (locs' : List Loc) (cells' slots' : Nat), k st' s' a' b' → x_W D cs ad A s' H' → va_S A s0.heap H' locs' → cells' + a' ≤ R.cells → slots' + b' ≤ R.slots → W p l e R s0 m args below meth c H' locs' cells' slots' Q (F0 m (pc + 3) ls (st'.map (mE (x_rho ad))))) :
    W p l e R s0 m args below meth c H locs cells slots Q (F0 m pc ls (st.map (mE (x_rho ad)))) := by
  obtain ⟨hx, hb, hml, hown, hts⟩ := F
  unfold x_hk at h
  dsimp only at h
  split at h <;> (try exact h.elim)
  rename_i r st'
  split at h <;> (try exact h.elim)
  rename_i q hf
  obtain ⟨⟨ci, oi, or⟩, ho, hci, h⟩ := h
  have hat := (hW.1 r _ (x_eO (x_n0 hW.2.2 ho) ho)).1
  replace hf : x_fm5 i = some q := hf
  unfold x_fm5 at hf
  split at hf
  · cases hf; cases hci; exact va_get (D := D) (ci := 5) (v := mE (x_rho ad) (.inr (or 0))) (C := RX5) (T := TX5) (N := 5) (own := RX5) (ref := RX5) hx hb hts in_X5 hown hK.1 (vx_P1 hat) 0 rfl rfl 0 (by decide) (hts _ wd_132) (fun _ h9 => h9) rfl hd (kk _ _ _ _ _ _ _ _ h hW hS hc hs)
  · cases hf; cases hci; exact va_get (D := D) (ci := 5) (v := mE (x_rho ad) (.inr (or 1))) (C := RX5) (T := TX5) (N := 5) (own := RX5) (ref := RX5) hx hb hts in_X5 hown hK.1 (vx_P1 hat) 0 rfl rfl 1 (by decide) (hts _ wd_134) (fun _ h9 => h9) rfl hd (kk _ _ _ _ _ _ _ _ h hW hS hc hs)
  · cases hf; cases hci; exact va_get (D := D) (ci := 5) (v := mE (x_rho ad) (.inr (or 2))) (C := RX5) (T := TX5) (N := 5) (own := RX5) (ref := RX5) hx hb hts in_X5 hown hK.1 (vx_P1 hat) 0 rfl rfl 2 (by decide) (hts _ wd_135) (fun _ h9 => h9) rfl hd (kk _ _ _ _ _ _ _ _ h hW hS hc hs)
  · cases hf; cases hci; exact va_get (D := D) (ci := 5) (v := mE (x_rho ad) (.inl (oi 3))) (C := RX5) (T := TX5) (N := 5) (own := RX5) (ref := RX5) hx hb hts in_X5 hown hK.1 (vx_P1 hat) 0 rfl rfl 3 (by decide) (hts _ wd_136) (fun _ h9 => h9) rfl hd (kk _ _ _ _ _ _ _ _ h hW hS hc hs)
  · cases hf; cases hci; exact va_get (D := D) (ci := 5) (v := mE (x_rho ad) (.inr (or 4))) (C := RX5) (T := TX5) (N := 5) (own := RX5) (ref := RX5) hx hb hts in_X5 hown hK.1 (vx_P1 hat) 0 rfl rfl 4 (by decide) (hts _ wd_137) (fun _ h9 => h9) rfl hd (kk _ _ _ _ _ _ _ _ h hW hS hc hs)
  · cases hf; cases hci; exact va_get (D := D) (ci := 0) (v := mE (x_rho ad) (.inl (oi 1))) (C := RX0) (T := TX0) (N := 9) (own := RX5) (ref := RX0) hx hb hts in_X0 hown hK.1 (vx_P1 hat) 0 rfl rfl 1 (by decide) (hts _ wd_181) (fun _ h9 => h9) rfl hd (kk _ _ _ _ _ _ _ _ h hW hS hc hs)
  · cases hf; cases hci; exact va_get (D := D) (ci := 1) (v := mE (x_rho ad) (.inl (oi 1))) (C := RX1) (T := TX1) (N := 2) (own := RX5) (ref := RX1) hx hb hts in_X1 hown hK.1 (vx_P1 hat) 0 rfl rfl 1 (by decide) (hts _ wd_115) (fun _ h9 => h9) rfl hd (kk _ _ _ _ _ _ _ _ h hW hS hc hs)
  · cases hf; cases hci; exact va_get (D := D) (ci := 0) (v := mE (x_rho ad) (.inr (or 3))) (C := RX0) (T := TX0) (N := 9) (own := RX5) (ref := RX0) hx hb hts in_X0 hown hK.1 (vx_P1 hat) 0 rfl rfl 3 (by decide) (hts _ wd_188) (fun _ h9 => h9) rfl hd (kk _ _ _ _ _ _ _ _ h hW hS hc hs)
  · cases hf; cases hci; exact va_get (D := D) (ci := 0) (v := mE (x_rho ad) (.inl (oi 0))) (C := RX0) (T := TX0) (N := 9) (own := RX5) (ref := RX0) hx hb hts in_X0 hown hK.1 (vx_P1 hat) 0 rfl rfl 0 (by decide) (hts _ wd_178) (fun _ h9 => h9) rfl hd (kk _ _ _ _ _ _ _ _ h hW hS hc hs)
  · cases hf; cases hci; exact va_get (D := D) (ci := 0) (v := mE (x_rho ad) (.inr (or 4))) (C := RX0) (T := TX0) (N := 9) (own := RX5) (ref := RX0) hx hb hts in_X0 hown hK.1 (vx_P1 hat) 0 rfl rfl 4 (by decide) (hts _ wd_193) (fun _ h9 => h9) rfl hd (kk _ _ _ _ _ _ _ _ h hW hS hc hs)
  · cases hf; cases hci; exact va_get (D := D) (ci := 0) (v := mE (x_rho ad) (.inl (oi 7))) (C := RX0) (T := TX0) (N := 9) (own := RX5) (ref := RX0) hx hb hts in_X0 hown hK.1 (vx_P1 hat) 0 rfl rfl 7 (by decide) (hts _ wd_205) (fun _ h9 => h9) rfl hd (kk _ _ _ _ _ _ _ _ h hW hS hc hs)
  · cases hf; cases hci; exact va_get (D := D) (ci := 0) (v := mE (x_rho ad) (.inr (or 5))) (C := RX0) (T := TX0) (N := 9) (own := RX5) (ref := RX0) hx hb hts in_X0 hown hK.1 (vx_P1 hat) 0 rfl rfl 5 (by decide) (hts _ wd_199) (fun _ h9 => h9) rfl hd (kk _ _ _ _ _ _ _ _ h hW hS hc hs)
  · cases hf; cases hci; exact va_get (D := D) (ci := 0) (v := mE (x_rho ad) (.inl (oi 6))) (C := RX0) (T := TX0) (N := 9) (own := RX5) (ref := RX0) hx hb hts in_X0 hown hK.1 (vx_P1 hat) 0 rfl rfl 6 (by decide) (hts _ wd_203) (fun _ h9 => h9) rfl hd (kk _ _ _ _ _ _ _ _ h hW hS hc hs)
  · cases hf
set_option maxHeartbeats 8000000 in
set_option maxRecDepth 20000 in
theorem x_put_5 (F : CallFix p m c cc nL s0 args tb RX5) (hK : kk D cs (fun i => ad (22 + i)) A s0) {i len pc : Nat} {st : List mV} {s : xS} {a b : Nat} {k : List mV → xS → Nat → Nat → Prop} {ini : Bool} (hini : ini = true → meth.name = "<init>") (h : x_hk ini 5 (.putfield i) st s a b k) (hd : decode cc pc = .ok (.putfield i, 3)) {H : Heap} {locs : List Loc} {cells slots : Nat} {ls : Array Slot} (hW : x_W D cs ad A s H) (hS : va_S A s0.heap H locs) (hc : cells + a ≤ R.cells) (hs : slots + b ≤ R.slots)
    (kk : ∀ (st' : List mV) (s' : xS) (a' b' : Nat) (H' : Heap) (locs' : List Loc) (cells' slots' : Nat), k st' s' a' b' → x_W D cs ad A s' H' → va_S A s0.heap H' locs' → cells' + a' ≤ R.cells → slots' + b' ≤ R.slots → W p l e R s0 m args below meth c H' locs' cells' slots' Q (F0 m (pc + 3) ls (st'.map (mE (x_rho ad))))) :
    W p l e R s0 m args below meth c H locs cells slots Q (F0 m pc ls (st.map (mE (x_rho ad)))) := by
  obtain ⟨hx, hb, hml, hown, hts⟩ := F
  unfold x_hk at h
  dsimp only at h
  split at h <;> (try exact h.elim)
  rename_i v r st'
  split at h <;> (try exact h.elim)
  rename_i q hf
  obtain ⟨⟨ci, oi, or⟩, ho, hci, h⟩ := h
  have hat := (hW.1 r _ (x_eO (x_n0 hW.2.2 ho) ho)).1
  replace hf : x_fm5 i = some q := hf
  unfold x_fm5 at hf
  split at hf
  · cases hf; cases hci
    rcases v with x | x
    · exact h.elim
    · cases ini
      · exact h.elim
      · exact vx_put (D := D) (ci := 5) (v := mE (x_rho ad) (.inr x)) (ty := (.array .int)) (C := RX5) (T := TX5) (N := 5) (own := RX5) hx hb hts in_X5 tyX5 tyX5_ok nmX5 hown hK.1 hat rfl 0 (by decide) (hts _ wd_132) (Or.inr ⟨rfl, hini rfl, rfl⟩) rfl x_fitsA.1 x_fitsA.2 (Nat.le_of_ble_eq_true rfl) hd (fun H1 sl ha hz hq => kk _ _ _ _ _ _ _ _ h (x_putO (s0 := s0) (locs := locs) (sl := sl) (o' := (5, oi, va_up or 0 x)) hW hS ho ha hz hq).1 (x_putO (s0 := s0) (locs := locs) (sl := sl) (o' := (5, oi, va_up or 0 x)) hW hS ho ha hz hq).2 hc hs)
  · cases hf; cases hci
    rcases v with x | x
    · exact h.elim
    · cases ini
      · exact h.elim
      · exact vx_put (D := D) (ci := 5) (v := mE (x_rho ad) (.inr x)) (ty := (.object RX1)) (C := RX5) (T := TX5) (N := 5) (own := RX5) hx hb hts in_X5 tyX5 tyX5_ok nmX5 hown hK.1 hat rfl 1 (by decide) (hts _ wd_134) (Or.inr ⟨rfl, hini rfl, rfl⟩) rfl x_fitsO.1 x_fitsO.2 (Nat.le_of_ble_eq_true rfl) hd (fun H1 sl ha hz hq => kk _ _ _ _ _ _ _ _ h (x_putO (s0 := s0) (locs := locs) (sl := sl) (o' := (5, oi, va_up or 1 x)) hW hS ho ha hz hq).1 (x_putO (s0 := s0) (locs := locs) (sl := sl) (o' := (5, oi, va_up or 1 x)) hW hS ho ha hz hq).2 hc hs)
  · cases hf; cases hci
    rcases v with x | x
    · exact h.elim
    · cases ini
      · exact h.elim
      · exact vx_put (D := D) (ci := 5) (v := mE (x_rho ad) (.inr x)) (ty := (.object RX3)) (C := RX5) (T := TX5) (N := 5) (own := RX5) hx hb hts in_X5 tyX5 tyX5_ok nmX5 hown hK.1 hat rfl 2 (by decide) (hts _ wd_135) (Or.inr ⟨rfl, hini rfl, rfl⟩) rfl x_fitsO.1 x_fitsO.2 (Nat.le_of_ble_eq_true rfl) hd (fun H1 sl ha hz hq => kk _ _ _ _ _ _ _ _ h (x_putO (s0 := s0) (locs := locs) (sl := sl) (o' := (5, oi, va_up or 2 x)) hW hS ho ha hz hq).1 (x_putO (s0 := s0) (locs := locs) (sl := sl) (o' := (5, oi, va_up or 2 x)) hW hS ho ha hz hq).2 hc hs)
  · cases hf; cases hci
    rcases v with x | x
    · exact vx_put (D := D) (ci := 5) (v := .int x) (ty := .int) (C := RX5) (T := TX5) (N := 5) (own := RX5) hx hb hts in_X5 tyX5 tyX5_ok nmX5 hown hK.1 hat rfl 3 (by decide) (hts _ wd_136) (Or.inl rfl) rfl rfl rfl (Nat.le_of_ble_eq_true rfl) hd (fun H1 sl ha hz hq => kk _ _ _ _ _ _ _ _ h (x_putO (s0 := s0) (locs := locs) (sl := sl) (o' := (5, upd oi 3 x, or)) hW hS ho ha hz hq).1 (x_putO (s0 := s0) (locs := locs) (sl := sl) (o' := (5, upd oi 3 x, or)) hW hS ho ha hz hq).2 hc hs)
    · exact h.elim
  · cases hf; cases hci
    rcases v with x | x
    · exact h.elim
    · exact vx_put (D := D) (ci := 5) (v := mE (x_rho ad) (.inr x)) (ty := (.object RX0)) (C := RX5) (T := TX5) (N := 5) (own := RX5) hx hb hts in_X5 tyX5 tyX5_ok nmX5 hown hK.1 hat rfl 4 (by decide) (hts _ wd_137) (Or.inl rfl) rfl x_fitsO.1 x_fitsO.2 (Nat.le_of_ble_eq_true rfl) hd (fun H1 sl ha hz hq => kk _ _ _ _ _ _ _ _ h (x_putO (s0 := s0) (locs := locs) (sl := sl) (o' := (5, oi, va_up or 4 x)) hW hS ho ha hz hq).1 (x_putO (s0 := s0) (locs := locs) (sl := sl) (o' := (5, oi, va_up or 4 x)) hW hS ho ha hz hq).2 hc hs)
  · cases hf; cases hci
    rcases v with x | x
    · exact vx_put (D := D) (ci := 0) (v := .int x) (ty := .int) (C := RX0) (T := TX0) (N := 9) (own := RX5) hx hb hts in_X0 tyX0 tyX0_ok nmX0 hown hK.1 hat rfl 1 (by decide) (hts _ wd_181) (Or.inl rfl) rfl rfl rfl (Nat.le_of_ble_eq_true rfl) hd (fun H1 sl ha hz hq => kk _ _ _ _ _ _ _ _ h (x_putO (s0 := s0) (locs := locs) (sl := sl) (o' := (0, upd oi 1 x, or)) hW hS ho ha hz hq).1 (x_putO (s0 := s0) (locs := locs) (sl := sl) (o' := (0, upd oi 1 x, or)) hW hS ho ha hz hq).2 hc hs)
    · exact h.elim
  · cases hf; cases hci
    rcases v with x | x
    · exact vx_put (D := D) (ci := 1) (v := .int x) (ty := .int) (C := RX1) (T := TX1) (N := 2) (own := RX5) hx hb hts in_X1 tyX1 tyX1_ok nmX1 hown hK.1 hat rfl 1 (by decide) (hts _ wd_115) (Or.inl rfl) rfl rfl rfl (Nat.le_of_ble_eq_true rfl) hd (fun H1 sl ha hz hq => kk _ _ _ _ _ _ _ _ h (x_putO (s0 := s0) (locs := locs) (sl := sl) (o' := (1, upd oi 1 x, or)) hW hS ho ha hz hq).1 (x_putO (s0 := s0) (locs := locs) (sl := sl) (o' := (1, upd oi 1 x, or)) hW hS ho ha hz hq).2 hc hs)
    · exact h.elim
  · cases hf; cases hci
    rcases v with x | x
    · exact h.elim
    · exact vx_put (D := D) (ci := 0) (v := mE (x_rho ad) (.inr x)) (ty := (.object RX0)) (C := RX0) (T := TX0) (N := 9) (own := RX5) hx hb hts in_X0 tyX0 tyX0_ok nmX0 hown hK.1 hat rfl 3 (by decide) (hts _ wd_188) (Or.inl rfl) rfl x_fitsO.1 x_fitsO.2 (Nat.le_of_ble_eq_true rfl) hd (fun H1 sl ha hz hq => kk _ _ _ _ _ _ _ _ h (x_putO (s0 := s0) (locs := locs) (sl := sl) (o' := (0, oi, va_up or 3 x)) hW hS ho ha hz hq).1 (x_putO (s0 := s0) (locs := locs) (sl := sl) (o' := (0, oi, va_up or 3 x)) hW hS ho ha hz hq).2 hc hs)
  · cases hf; cases hci
    rcases v with x | x
    · exact vx_put (D := D) (ci := 0) (v := .int x) (ty := .int) (C := RX0) (T := TX0) (N := 9) (own := RX5) hx hb hts in_X0 tyX0 tyX0_ok nmX0 hown hK.1 hat rfl 0 (by decide) (hts _ wd_178) (Or.inl rfl) rfl rfl rfl (Nat.le_of_ble_eq_true rfl) hd (fun H1 sl ha hz hq => kk _ _ _ _ _ _ _ _ h (x_putO (s0 := s0) (locs := locs) (sl := sl) (o' := (0, upd oi 0 x, or)) hW hS ho ha hz hq).1 (x_putO (s0 := s0) (locs := locs) (sl := sl) (o' := (0, upd oi 0 x, or)) hW hS ho ha hz hq).2 hc hs)
    · exact h.elim
  · cases hf; cases hci
    rcases v with x | x
    · exact h.elim
    · exact vx_put (D := D) (ci := 0) (v := mE (x_rho ad) (.inr x)) (ty := (.object RX0)) (C := RX0) (T := TX0) (N := 9) (own := RX5) hx hb hts in_X0 tyX0 tyX0_ok nmX0 hown hK.1 hat rfl 4 (by decide) (hts _ wd_193) (Or.inl rfl) rfl x_fitsO.1 x_fitsO.2 (Nat.le_of_ble_eq_true rfl) hd (fun H1 sl ha hz hq => kk _ _ _ _ _ _ _ _ h (x_putO (s0 := s0) (locs := locs) (sl := sl) (o' := (0, oi, va_up or 4 x)) hW hS ho ha hz hq).1 (x_putO (s0 := s0) (locs := locs) (sl := sl) (o' := (0, oi, va_up or 4 x)) hW hS ho ha hz hq).2 hc hs)
  · cases hf; cases hci
    rcases v with x | x
    · exact vx_put (D := D) (ci := 0) (v := .int x) (ty := .int) (C := RX0) (T := TX0) (N := 9) (own := RX5) hx hb hts in_X0 tyX0 tyX0_ok nmX0 hown hK.1 hat rfl 7 (by decide) (hts _ wd_205) (Or.inl rfl) rfl rfl rfl (Nat.le_of_ble_eq_true rfl) hd (fun H1 sl ha hz hq => kk _ _ _ _ _ _ _ _ h (x_putO (s0 := s0) (locs := locs) (sl := sl) (o' := (0, upd oi 7 x, or)) hW hS ho ha hz hq).1 (x_putO (s0 := s0) (locs := locs) (sl := sl) (o' := (0, upd oi 7 x, or)) hW hS ho ha hz hq).2 hc hs)
    · exact h.elim
  · cases hf; cases hci
    rcases v with x | x
    · exact h.elim
    · exact vx_put (D := D) (ci := 0) (v := mE (x_rho ad) (.inr x)) (ty := (.object RX0)) (C := RX0) (T := TX0) (N := 9) (own := RX5) hx hb hts in_X0 tyX0 tyX0_ok nmX0 hown hK.1 hat rfl 5 (by decide) (hts _ wd_199) (Or.inl rfl) rfl x_fitsO.1 x_fitsO.2 (Nat.le_of_ble_eq_true rfl) hd (fun H1 sl ha hz hq => kk _ _ _ _ _ _ _ _ h (x_putO (s0 := s0) (locs := locs) (sl := sl) (o' := (0, oi, va_up or 5 x)) hW hS ho ha hz hq).1 (x_putO (s0 := s0) (locs := locs) (sl := sl) (o' := (0, oi, va_up or 5 x)) hW hS ho ha hz hq).2 hc hs)
  · cases hf; cases hci
    rcases v with x | x
    · exact vx_put (D := D) (ci := 0) (v := .int x) (ty := .int) (C := RX0) (T := TX0) (N := 9) (own := RX5) hx hb hts in_X0 tyX0 tyX0_ok nmX0 hown hK.1 hat rfl 6 (by decide) (hts _ wd_203) (Or.inl rfl) rfl rfl rfl (Nat.le_of_ble_eq_true rfl) hd (fun H1 sl ha hz hq => kk _ _ _ _ _ _ _ _ h (x_putO (s0 := s0) (locs := locs) (sl := sl) (o' := (0, upd oi 6 x, or)) hW hS ho ha hz hq).1 (x_putO (s0 := s0) (locs := locs) (sl := sl) (o' := (0, upd oi 6 x, or)) hW hS ho ha hz hq).2 hc hs)
    · exact h.elim
  · cases hf
set_option maxHeartbeats 8000000 in
set_option maxRecDepth 20000 in
theorem x_get_6 (F : CallFix p m c cc nL s0 args tb RX6) (hK : kk D cs (fun i => ad (22 + i)) A s0) {i len pc : Nat} {st : List mV} {s : xS} {a b : Nat} {k : List mV → xS → Nat → Nat → Prop} {ini : Bool} (h : x_hk ini 6 (.getfield i) st s a b k) (hd : decode cc pc = .ok (.getfield i, 3)) {H : Heap} {locs : List Loc} {cells slots : Nat} {ls : Array Slot} (hW : x_W D cs ad A s H) (hS : va_S A s0.heap H locs) (hc : cells + a ≤ R.cells) (hs : slots + b ≤ R.slots)
    (kk : ∀ (st' : List mV) (s' : xS) (a' b' : Nat) (H' : Heap) (locs' : List Loc) (cells' slots' : Nat), k st' s' a' b' → x_W D cs ad A s' H' → va_S A s0.heap H' locs' → cells' + a' ≤ R.cells → slots' + b' ≤ R.slots → W p l e R s0 m args below meth c H' locs' cells' slots' Q (F0 m (pc + 3) ls (st'.map (mE (x_rho ad))))) :
    W p l e R s0 m args below meth c H locs cells slots Q (F0 m pc ls (st.map (mE (x_rho ad)))) := by
  obtain ⟨hx, hb, hml, hown, hts⟩ := F
  unfold x_hk at h
  dsimp only at h
  split at h <;> (try exact h.elim)
  rename_i r st'
  split at h <;> (try exact h.elim)
  rename_i q hf
  obtain ⟨⟨ci, oi, or⟩, ho, hci, h⟩ := h
  have hat := (hW.1 r _ (x_eO (x_n0 hW.2.2 ho) ho)).1
  replace hf : x_fm6 i = some q := hf
  unfold x_fm6 at hf
  split at hf
  · cases hf; cases hci; exact va_get (D := D) (ci := 6) (v := mE (x_rho ad) (.inr (or 0))) (C := RX6) (T := TX6) (N := 11) (own := RX6) (ref := RX6) hx hb hts in_X6 hown hK.1 (vx_P1 hat) 0 rfl rfl 0 (by decide) (hts _ wd_226) (fun _ h9 => h9) rfl hd (kk _ _ _ _ _ _ _ _ h hW hS hc hs)
  · cases hf; cases hci; exact va_get (D := D) (ci := 6) (v := mE (x_rho ad) (.inr (or 1))) (C := RX6) (T := TX6) (N := 11) (own := RX6) (ref := RX6) hx hb hts in_X6 hown hK.1 (vx_P1 hat) 0 rfl rfl 1 (by decide) (hts _ wd_227) (fun _ h9 => h9) rfl hd (kk _ _ _ _ _ _ _ _ h hW hS hc hs)
  · cases hf; cases hci; exact va_get (D := D) (ci := 6) (v := mE (x_rho ad) (.inr (or 2))) (C := RX6) (T := TX6) (N := 11) (own := RX6) (ref := RX6) hx hb hts in_X6 hown hK.1 (vx_P1 hat) 0 rfl rfl 2 (by decide) (hts _ wd_228) (fun _ h9 => h9) rfl hd (kk _ _ _ _ _ _ _ _ h hW hS hc hs)
  · cases hf; cases hci; exact va_get (D := D) (ci := 6) (v := mE (x_rho ad) (.inl (oi 3))) (C := RX6) (T := TX6) (N := 11) (own := RX6) (ref := RX6) hx hb hts in_X6 hown hK.1 (vx_P1 hat) 0 rfl rfl 3 (by decide) (hts _ wd_229) (fun _ h9 => h9) rfl hd (kk _ _ _ _ _ _ _ _ h hW hS hc hs)
  · cases hf; cases hci; exact va_get (D := D) (ci := 6) (v := mE (x_rho ad) (.inr (or 4))) (C := RX6) (T := TX6) (N := 11) (own := RX6) (ref := RX6) hx hb hts in_X6 hown hK.1 (vx_P1 hat) 0 rfl rfl 4 (by decide) (hts _ wd_230) (fun _ h9 => h9) rfl hd (kk _ _ _ _ _ _ _ _ h hW hS hc hs)
  · cases hf; cases hci; exact va_get (D := D) (ci := 6) (v := mE (x_rho ad) (.inr (or 5))) (C := RX6) (T := TX6) (N := 11) (own := RX6) (ref := RX6) hx hb hts in_X6 hown hK.1 (vx_P1 hat) 0 rfl rfl 5 (by decide) (hts _ wd_231) (fun _ h9 => h9) rfl hd (kk _ _ _ _ _ _ _ _ h hW hS hc hs)
  · cases hf; cases hci; exact va_get (D := D) (ci := 6) (v := mE (x_rho ad) (.inr (or 6))) (C := RX6) (T := TX6) (N := 11) (own := RX6) (ref := RX6) hx hb hts in_X6 hown hK.1 (vx_P1 hat) 0 rfl rfl 6 (by decide) (hts _ wd_232) (fun _ h9 => h9) rfl hd (kk _ _ _ _ _ _ _ _ h hW hS hc hs)
  · cases hf; cases hci; exact va_get (D := D) (ci := 6) (v := mE (x_rho ad) (.inr (or 7))) (C := RX6) (T := TX6) (N := 11) (own := RX6) (ref := RX6) hx hb hts in_X6 hown hK.1 (vx_P1 hat) 0 rfl rfl 7 (by decide) (hts _ wd_233) (fun _ h9 => h9) rfl hd (kk _ _ _ _ _ _ _ _ h hW hS hc hs)
  · cases hf; cases hci; exact va_get (D := D) (ci := 6) (v := mE (x_rho ad) (.inr (or 8))) (C := RX6) (T := TX6) (N := 11) (own := RX6) (ref := RX6) hx hb hts in_X6 hown hK.1 (vx_P1 hat) 0 rfl rfl 8 (by decide) (hts _ wd_234) (fun _ h9 => h9) rfl hd (kk _ _ _ _ _ _ _ _ h hW hS hc hs)
  · cases hf; cases hci; exact va_get (D := D) (ci := 6) (v := mE (x_rho ad) (.inr (or 9))) (C := RX6) (T := TX6) (N := 11) (own := RX6) (ref := RX6) hx hb hts in_X6 hown hK.1 (vx_P1 hat) 0 rfl rfl 9 (by decide) (hts _ wd_235) (fun _ h9 => h9) rfl hd (kk _ _ _ _ _ _ _ _ h hW hS hc hs)
  · cases hf; cases hci; exact va_get (D := D) (ci := 6) (v := mE (x_rho ad) (.inr (or 10))) (C := RX6) (T := TX6) (N := 11) (own := RX6) (ref := RX6) hx hb hts in_X6 hown hK.1 (vx_P1 hat) 0 rfl rfl 10 (by decide) (hts _ wd_236) (fun _ h9 => h9) rfl hd (kk _ _ _ _ _ _ _ _ h hW hS hc hs)
  · cases hf; cases hci; exact va_get (D := D) (ci := 5) (v := mE (x_rho ad) (.inr (or 0))) (C := RX5) (T := TX5) (N := 5) (own := RX6) (ref := RX5) hx hb hts in_X5 hown hK.1 (vx_P1 hat) 0 rfl rfl 0 (by decide) (hts _ wd_133) (fun _ h9 => h9) rfl hd (kk _ _ _ _ _ _ _ _ h hW hS hc hs)
  · cases hf; cases hci; exact va_get (D := D) (ci := 3) (v := mE (x_rho ad) (.inl (oi 1))) (C := RX3) (T := TX3) (N := 2) (own := RX6) (ref := RX3) hx hb hts in_X3 hown hK.1 (vx_P1 hat) 0 rfl rfl 1 (by decide) (hts _ wd_77) (fun _ h9 => h9) rfl hd (kk _ _ _ _ _ _ _ _ h hW hS hc hs)
  · cases hf; cases hci; exact va_get (D := D) (ci := 0) (v := mE (x_rho ad) (.inl (oi 1))) (C := RX0) (T := TX0) (N := 9) (own := RX6) (ref := RX0) hx hb hts in_X0 hown hK.1 (vx_P1 hat) 0 rfl rfl 1 (by decide) (hts _ wd_183) (fun _ h9 => h9) rfl hd (kk _ _ _ _ _ _ _ _ h hW hS hc hs)
  · cases hf; cases hci; exact va_get (D := D) (ci := 0) (v := mE (x_rho ad) (.inl (oi 0))) (C := RX0) (T := TX0) (N := 9) (own := RX6) (ref := RX0) hx hb hts in_X0 hown hK.1 (vx_P1 hat) 0 rfl rfl 0 (by decide) (hts _ wd_180) (fun _ h9 => h9) rfl hd (kk _ _ _ _ _ _ _ _ h hW hS hc hs)
  · cases hf; cases hci; exact va_get (D := D) (ci := 1) (v := mE (x_rho ad) (.inl (oi 1))) (C := RX1) (T := TX1) (N := 2) (own := RX6) (ref := RX1) hx hb hts in_X1 hown hK.1 (vx_P1 hat) 0 rfl rfl 1 (by decide) (hts _ wd_116) (fun _ h9 => h9) rfl hd (kk _ _ _ _ _ _ _ _ h hW hS hc hs)
  · cases hf; cases hci; exact va_get (D := D) (ci := 4) (v := mE (x_rho ad) (.inl (oi 1))) (C := RX4) (T := TX4) (N := 3) (own := RX6) (ref := RX4) hx hb hts in_X4 hown hK.1 (vx_P1 hat) 0 rfl rfl 1 (by decide) (hts _ wd_157) (fun _ h9 => h9) rfl hd (kk _ _ _ _ _ _ _ _ h hW hS hc hs)
  · cases hf; cases hci; exact va_get (D := D) (ci := 4) (v := mE (x_rho ad) (.inl (oi 2))) (C := RX4) (T := TX4) (N := 3) (own := RX6) (ref := RX4) hx hb hts in_X4 hown hK.1 (vx_P1 hat) 0 rfl rfl 2 (by decide) (hts _ wd_159) (fun _ h9 => h9) rfl hd (kk _ _ _ _ _ _ _ _ h hW hS hc hs)
  · cases hf; cases hci; exact va_get (D := D) (ci := 0) (v := mE (x_rho ad) (.inl (oi 6))) (C := RX0) (T := TX0) (N := 9) (own := RX6) (ref := RX0) hx hb hts in_X0 hown hK.1 (vx_P1 hat) 0 rfl rfl 6 (by decide) (hts _ wd_204) (fun _ h9 => h9) rfl hd (kk _ _ _ _ _ _ _ _ h hW hS hc hs)
  · cases hf; cases hci; exact va_get (D := D) (ci := 0) (v := mE (x_rho ad) (.inr (or 5))) (C := RX0) (T := TX0) (N := 9) (own := RX6) (ref := RX0) hx hb hts in_X0 hown hK.1 (vx_P1 hat) 0 rfl rfl 5 (by decide) (hts _ wd_200) (fun _ h9 => h9) rfl hd (kk _ _ _ _ _ _ _ _ h hW hS hc hs)
  · cases hf; cases hci; exact va_get (D := D) (ci := 2) (v := mE (x_rho ad) (.inl (oi 2))) (C := RX2) (T := TX2) (N := 4) (own := RX6) (ref := RX2) hx hb hts in_X2 hown hK.1 (vx_P1 hat) 0 rfl rfl 2 (by decide) (hts _ wd_94) (fun _ h9 => h9) rfl hd (kk _ _ _ _ _ _ _ _ h hW hS hc hs)
  · cases hf; cases hci; exact va_get (D := D) (ci := 2) (v := mE (x_rho ad) (.inl (oi 3))) (C := RX2) (T := TX2) (N := 4) (own := RX6) (ref := RX2) hx hb hts in_X2 hown hK.1 (vx_P1 hat) 0 rfl rfl 3 (by decide) (hts _ wd_96) (fun _ h9 => h9) rfl hd (kk _ _ _ _ _ _ _ _ h hW hS hc hs)
  · cases hf
set_option maxHeartbeats 8000000 in
set_option maxRecDepth 20000 in
theorem x_put_6 (F : CallFix p m c cc nL s0 args tb RX6) (hK : kk D cs (fun i => ad (22 + i)) A s0) {i len pc : Nat} {st : List mV} {s : xS} {a b : Nat} {k : List mV → xS → Nat → Nat → Prop} {ini : Bool} (hini : ini = true → meth.name = "<init>") (h : x_hk ini 6 (.putfield i) st s a b k) (hd : decode cc pc = .ok (.putfield i, 3)) {H : Heap} {locs : List Loc} {cells slots : Nat} {ls : Array Slot} (hW : x_W D cs ad A s H) (hS : va_S A s0.heap H locs) (hc : cells + a ≤ R.cells) (hs : slots + b ≤ R.slots)
    (kk : ∀ (st' : List mV) (s' : xS) (a' b' : Nat) (H' : Heap) (locs' : List Loc) (cells' slots' : Nat), k st' s' a' b' → x_W D cs ad A s' H' → va_S A s0.heap H' locs' → cells' + a' ≤ R.cells → slots' + b' ≤ R.slots → W p l e R s0 m args below meth c H' locs' cells' slots' Q (F0 m (pc + 3) ls (st'.map (mE (x_rho ad))))) :
    W p l e R s0 m args below meth c H locs cells slots Q (F0 m pc ls (st.map (mE (x_rho ad)))) := by
  obtain ⟨hx, hb, hml, hown, hts⟩ := F
  unfold x_hk at h
  dsimp only at h
  split at h <;> (try exact h.elim)
  rename_i v r st'
  split at h <;> (try exact h.elim)
  rename_i q hf
  obtain ⟨⟨ci, oi, or⟩, ho, hci, h⟩ := h
  have hat := (hW.1 r _ (x_eO (x_n0 hW.2.2 ho) ho)).1
  replace hf : x_fm6 i = some q := hf
  unfold x_fm6 at hf
  split at hf
  · cases hf; cases hci
    rcases v with x | x
    · exact h.elim
    · cases ini
      · exact h.elim
      · exact vx_put (D := D) (ci := 6) (v := mE (x_rho ad) (.inr x)) (ty := (.array (.object RX0))) (C := RX6) (T := TX6) (N := 11) (own := RX6) hx hb hts in_X6 tyX6 tyX6_ok nmX6 hown hK.1 hat rfl 0 (by decide) (hts _ wd_226) (Or.inr ⟨rfl, hini rfl, rfl⟩) rfl x_fitsA.1 x_fitsA.2 (Nat.le_of_ble_eq_true rfl) hd (fun H1 sl ha hz hq => kk _ _ _ _ _ _ _ _ h (x_putO (s0 := s0) (locs := locs) (sl := sl) (o' := (6, oi, va_up or 0 x)) hW hS ho ha hz hq).1 (x_putO (s0 := s0) (locs := locs) (sl := sl) (o' := (6, oi, va_up or 0 x)) hW hS ho ha hz hq).2 hc hs)
  · cases hf; cases hci
    rcases v with x | x
    · exact h.elim
    · cases ini
      · exact h.elim
      · exact vx_put (D := D) (ci := 6) (v := mE (x_rho ad) (.inr x)) (ty := (.array (.object RX0))) (C := RX6) (T := TX6) (N := 11) (own := RX6) hx hb hts in_X6 tyX6 tyX6_ok nmX6 hown hK.1 hat rfl 1 (by decide) (hts _ wd_227) (Or.inr ⟨rfl, hini rfl, rfl⟩) rfl x_fitsA.1 x_fitsA.2 (Nat.le_of_ble_eq_true rfl) hd (fun H1 sl ha hz hq => kk _ _ _ _ _ _ _ _ h (x_putO (s0 := s0) (locs := locs) (sl := sl) (o' := (6, oi, va_up or 1 x)) hW hS ho ha hz hq).1 (x_putO (s0 := s0) (locs := locs) (sl := sl) (o' := (6, oi, va_up or 1 x)) hW hS ho ha hz hq).2 hc hs)
  · cases hf; cases hci
    rcases v with x | x
    · exact h.elim
    · cases ini
      · exact h.elim
      · exact vx_put (D := D) (ci := 6) (v := mE (x_rho ad) (.inr x)) (ty := (.array (.object RX0))) (C := RX6) (T := TX6) (N := 11) (own := RX6) hx hb hts in_X6 tyX6 tyX6_ok nmX6 hown hK.1 hat rfl 2 (by decide) (hts _ wd_228) (Or.inr ⟨rfl, hini rfl, rfl⟩) rfl x_fitsA.1 x_fitsA.2 (Nat.le_of_ble_eq_true rfl) hd (fun H1 sl ha hz hq => kk _ _ _ _ _ _ _ _ h (x_putO (s0 := s0) (locs := locs) (sl := sl) (o' := (6, oi, va_up or 2 x)) hW hS ho ha hz hq).1 (x_putO (s0 := s0) (locs := locs) (sl := sl) (o' := (6, oi, va_up or 2 x)) hW hS ho ha hz hq).2 hc hs)
  · cases hf; cases hci
    rcases v with x | x
    · exact vx_put (D := D) (ci := 6) (v := .int x) (ty := .int) (C := RX6) (T := TX6) (N := 11) (own := RX6) hx hb hts in_X6 tyX6 tyX6_ok nmX6 hown hK.1 hat rfl 3 (by decide) (hts _ wd_229) (Or.inl rfl) rfl rfl rfl (Nat.le_of_ble_eq_true rfl) hd (fun H1 sl ha hz hq => kk _ _ _ _ _ _ _ _ h (x_putO (s0 := s0) (locs := locs) (sl := sl) (o' := (6, upd oi 3 x, or)) hW hS ho ha hz hq).1 (x_putO (s0 := s0) (locs := locs) (sl := sl) (o' := (6, upd oi 3 x, or)) hW hS ho ha hz hq).2 hc hs)
    · exact h.elim
  · cases hf; cases hci
    rcases v with x | x
    · exact h.elim
    · cases ini
      · exact h.elim
      · exact vx_put (D := D) (ci := 6) (v := mE (x_rho ad) (.inr x)) (ty := (.object RX3)) (C := RX6) (T := TX6) (N := 11) (own := RX6) hx hb hts in_X6 tyX6 tyX6_ok nmX6 hown hK.1 hat rfl 4 (by decide) (hts _ wd_230) (Or.inr ⟨rfl, hini rfl, rfl⟩) rfl x_fitsO.1 x_fitsO.2 (Nat.le_of_ble_eq_true rfl) hd (fun H1 sl ha hz hq => kk _ _ _ _ _ _ _ _ h (x_putO (s0 := s0) (locs := locs) (sl := sl) (o' := (6, oi, va_up or 4 x)) hW hS ho ha hz hq).1 (x_putO (s0 := s0) (locs := locs) (sl := sl) (o' := (6, oi, va_up or 4 x)) hW hS ho ha hz hq).2 hc hs)
  · cases hf; cases hci
    rcases v with x | x
    · exact h.elim
    · cases ini
      · exact h.elim
      · exact vx_put (D := D) (ci := 6) (v := mE (x_rho ad) (.inr x)) (ty := (.object RX2)) (C := RX6) (T := TX6) (N := 11) (own := RX6) hx hb hts in_X6 tyX6 tyX6_ok nmX6 hown hK.1 hat rfl 5 (by decide) (hts _ wd_231) (Or.inr ⟨rfl, hini rfl, rfl⟩) rfl x_fitsO.1 x_fitsO.2 (Nat.le_of_ble_eq_true rfl) hd (fun H1 sl ha hz hq => kk _ _ _ _ _ _ _ _ h (x_putO (s0 := s0) (locs := locs) (sl := sl) (o' := (6, oi, va_up or 5 x)) hW hS ho ha hz hq).1 (x_putO (s0 := s0) (locs := locs) (sl := sl) (o' := (6, oi, va_up or 5 x)) hW hS ho ha hz hq).2 hc hs)
  · cases hf; cases hci
    rcases v with x | x
    · exact h.elim
    · cases ini
      · exact h.elim
      · exact vx_put (D := D) (ci := 6) (v := mE (x_rho ad) (.inr x)) (ty := (.object RX1)) (C := RX6) (T := TX6) (N := 11) (own := RX6) hx hb hts in_X6 tyX6 tyX6_ok nmX6 hown hK.1 hat rfl 6 (by decide) (hts _ wd_232) (Or.inr ⟨rfl, hini rfl, rfl⟩) rfl x_fitsO.1 x_fitsO.2 (Nat.le_of_ble_eq_true rfl) hd (fun H1 sl ha hz hq => kk _ _ _ _ _ _ _ _ h (x_putO (s0 := s0) (locs := locs) (sl := sl) (o' := (6, oi, va_up or 6 x)) hW hS ho ha hz hq).1 (x_putO (s0 := s0) (locs := locs) (sl := sl) (o' := (6, oi, va_up or 6 x)) hW hS ho ha hz hq).2 hc hs)
  · cases hf; cases hci
    rcases v with x | x
    · exact h.elim
    · cases ini
      · exact h.elim
      · exact vx_put (D := D) (ci := 6) (v := mE (x_rho ad) (.inr x)) (ty := (.object RX5)) (C := RX6) (T := TX6) (N := 11) (own := RX6) hx hb hts in_X6 tyX6 tyX6_ok nmX6 hown hK.1 hat rfl 7 (by decide) (hts _ wd_233) (Or.inr ⟨rfl, hini rfl, rfl⟩) rfl x_fitsO.1 x_fitsO.2 (Nat.le_of_ble_eq_true rfl) hd (fun H1 sl ha hz hq => kk _ _ _ _ _ _ _ _ h (x_putO (s0 := s0) (locs := locs) (sl := sl) (o' := (6, oi, va_up or 7 x)) hW hS ho ha hz hq).1 (x_putO (s0 := s0) (locs := locs) (sl := sl) (o' := (6, oi, va_up or 7 x)) hW hS ho ha hz hq).2 hc hs)
  · cases hf; cases hci
    rcases v with x | x
    · exact h.elim
    · cases ini
      · exact h.elim
      · exact vx_put (D := D) (ci := 6) (v := mE (x_rho ad) (.inr x)) (ty := (.object RX4)) (C := RX6) (T := TX6) (N := 11) (own := RX6) hx hb hts in_X6 tyX6 tyX6_ok nmX6 hown hK.1 hat rfl 8 (by decide) (hts _ wd_234) (Or.inr ⟨rfl, hini rfl, rfl⟩) rfl x_fitsO.1 x_fitsO.2 (Nat.le_of_ble_eq_true rfl) hd (fun H1 sl ha hz hq => kk _ _ _ _ _ _ _ _ h (x_putO (s0 := s0) (locs := locs) (sl := sl) (o' := (6, oi, va_up or 8 x)) hW hS ho ha hz hq).1 (x_putO (s0 := s0) (locs := locs) (sl := sl) (o' := (6, oi, va_up or 8 x)) hW hS ho ha hz hq).2 hc hs)
  · cases hf; cases hci
    rcases v with x | x
    · exact h.elim
    · cases ini
      · exact h.elim
      · exact vx_put (D := D) (ci := 6) (v := mE (x_rho ad) (.inr x)) (ty := (.object RX3)) (C := RX6) (T := TX6) (N := 11) (own := RX6) hx hb hts in_X6 tyX6 tyX6_ok nmX6 hown hK.1 hat rfl 9 (by decide) (hts _ wd_235) (Or.inr ⟨rfl, hini rfl, rfl⟩) rfl x_fitsO.1 x_fitsO.2 (Nat.le_of_ble_eq_true rfl) hd (fun H1 sl ha hz hq => kk _ _ _ _ _ _ _ _ h (x_putO (s0 := s0) (locs := locs) (sl := sl) (o' := (6, oi, va_up or 9 x)) hW hS ho ha hz hq).1 (x_putO (s0 := s0) (locs := locs) (sl := sl) (o' := (6, oi, va_up or 9 x)) hW hS ho ha hz hq).2 hc hs)
  · cases hf; cases hci
    rcases v with x | x
    · exact h.elim
    · cases ini
      · exact h.elim
      · exact vx_put (D := D) (ci := 6) (v := mE (x_rho ad) (.inr x)) (ty := (.object RX3)) (C := RX6) (T := TX6) (N := 11) (own := RX6) hx hb hts in_X6 tyX6 tyX6_ok nmX6 hown hK.1 hat rfl 10 (by decide) (hts _ wd_236) (Or.inr ⟨rfl, hini rfl, rfl⟩) rfl x_fitsO.1 x_fitsO.2 (Nat.le_of_ble_eq_true rfl) hd (fun H1 sl ha hz hq => kk _ _ _ _ _ _ _ _ h (x_putO (s0 := s0) (locs := locs) (sl := sl) (o' := (6, oi, va_up or 10 x)) hW hS ho ha hz hq).1 (x_putO (s0 := s0) (locs := locs) (sl := sl) (o' := (6, oi, va_up or 10 x)) hW hS ho ha hz hq).2 hc hs)
  · cases hf; cases hci
    rcases v with x | x
    · exact h.elim
    · cases ini
      · exact h.elim
      · exact h.elim
  · cases hf; cases hci
    rcases v with x | x
    · exact vx_put (D := D) (ci := 3) (v := .int x) (ty := .int) (C := RX3) (T := TX3) (N := 2) (own := RX6) hx hb hts in_X3 tyX3 tyX3_ok nmX3 hown hK.1 hat rfl 1 (by decide) (hts _ wd_77) (Or.inl rfl) rfl rfl rfl (Nat.le_of_ble_eq_true rfl) hd (fun H1 sl ha hz hq => kk _ _ _ _ _ _ _ _ h (x_putO (s0 := s0) (locs := locs) (sl := sl) (o' := (3, upd oi 1 x, or)) hW hS ho ha hz hq).1 (x_putO (s0 := s0) (locs := locs) (sl := sl) (o' := (3, upd oi 1 x, or)) hW hS ho ha hz hq).2 hc hs)
    · exact h.elim
  · cases hf; cases hci
    rcases v with x | x
    · exact vx_put (D := D) (ci := 0) (v := .int x) (ty := .int) (C := RX0) (T := TX0) (N := 9) (own := RX6) hx hb hts in_X0 tyX0 tyX0_ok nmX0 hown hK.1 hat rfl 1 (by decide) (hts _ wd_183) (Or.inl rfl) rfl rfl rfl (Nat.le_of_ble_eq_true rfl) hd (fun H1 sl ha hz hq => kk _ _ _ _ _ _ _ _ h (x_putO (s0 := s0) (locs := locs) (sl := sl) (o' := (0, upd oi 1 x, or)) hW hS ho ha hz hq).1 (x_putO (s0 := s0) (locs := locs) (sl := sl) (o' := (0, upd oi 1 x, or)) hW hS ho ha hz hq).2 hc hs)
    · exact h.elim
  · cases hf; cases hci
    rcases v with x | x
    · exact vx_put (D := D) (ci := 0) (v := .int x) (ty := .int) (C := RX0) (T := TX0) (N := 9) (own := RX6) hx hb hts in_X0 tyX0 tyX0_ok nmX0 hown hK.1 hat rfl 0 (by decide) (hts _ wd_180) (Or.inl rfl) rfl rfl rfl (Nat.le_of_ble_eq_true rfl) hd (fun H1 sl ha hz hq => kk _ _ _ _ _ _ _ _ h (x_putO (s0 := s0) (locs := locs) (sl := sl) (o' := (0, upd oi 0 x, or)) hW hS ho ha hz hq).1 (x_putO (s0 := s0) (locs := locs) (sl := sl) (o' := (0, upd oi 0 x, or)) hW hS ho ha hz hq).2 hc hs)
    · exact h.elim
  · cases hf; cases hci
    rcases v with x | x
    · exact vx_put (D := D) (ci := 1) (v := .int x) (ty := .int) (C := RX1) (T := TX1) (N := 2) (own := RX6) hx hb hts in_X1 tyX1 tyX1_ok nmX1 hown hK.1 hat rfl 1 (by decide) (hts _ wd_116) (Or.inl rfl) rfl rfl rfl (Nat.le_of_ble_eq_true rfl) hd (fun H1 sl ha hz hq => kk _ _ _ _ _ _ _ _ h (x_putO (s0 := s0) (locs := locs) (sl := sl) (o' := (1, upd oi 1 x, or)) hW hS ho ha hz hq).1 (x_putO (s0 := s0) (locs := locs) (sl := sl) (o' := (1, upd oi 1 x, or)) hW hS ho ha hz hq).2 hc hs)
    · exact h.elim
  · cases hf; cases hci
    rcases v with x | x
    · exact vx_put (D := D) (ci := 4) (v := .int x) (ty := .int) (C := RX4) (T := TX4) (N := 3) (own := RX6) hx hb hts in_X4 tyX4 tyX4_ok nmX4 hown hK.1 hat rfl 1 (by decide) (hts _ wd_157) (Or.inl rfl) rfl rfl rfl (Nat.le_of_ble_eq_true rfl) hd (fun H1 sl ha hz hq => kk _ _ _ _ _ _ _ _ h (x_putO (s0 := s0) (locs := locs) (sl := sl) (o' := (4, upd oi 1 x, or)) hW hS ho ha hz hq).1 (x_putO (s0 := s0) (locs := locs) (sl := sl) (o' := (4, upd oi 1 x, or)) hW hS ho ha hz hq).2 hc hs)
    · exact h.elim
  · cases hf; cases hci
    rcases v with x | x
    · exact vx_put (D := D) (ci := 4) (v := .int x) (ty := .int) (C := RX4) (T := TX4) (N := 3) (own := RX6) hx hb hts in_X4 tyX4 tyX4_ok nmX4 hown hK.1 hat rfl 2 (by decide) (hts _ wd_159) (Or.inl rfl) rfl rfl rfl (Nat.le_of_ble_eq_true rfl) hd (fun H1 sl ha hz hq => kk _ _ _ _ _ _ _ _ h (x_putO (s0 := s0) (locs := locs) (sl := sl) (o' := (4, upd oi 2 x, or)) hW hS ho ha hz hq).1 (x_putO (s0 := s0) (locs := locs) (sl := sl) (o' := (4, upd oi 2 x, or)) hW hS ho ha hz hq).2 hc hs)
    · exact h.elim
  · cases hf; cases hci
    rcases v with x | x
    · exact vx_put (D := D) (ci := 0) (v := .int x) (ty := .int) (C := RX0) (T := TX0) (N := 9) (own := RX6) hx hb hts in_X0 tyX0 tyX0_ok nmX0 hown hK.1 hat rfl 6 (by decide) (hts _ wd_204) (Or.inl rfl) rfl rfl rfl (Nat.le_of_ble_eq_true rfl) hd (fun H1 sl ha hz hq => kk _ _ _ _ _ _ _ _ h (x_putO (s0 := s0) (locs := locs) (sl := sl) (o' := (0, upd oi 6 x, or)) hW hS ho ha hz hq).1 (x_putO (s0 := s0) (locs := locs) (sl := sl) (o' := (0, upd oi 6 x, or)) hW hS ho ha hz hq).2 hc hs)
    · exact h.elim
  · cases hf; cases hci
    rcases v with x | x
    · exact h.elim
    · exact vx_put (D := D) (ci := 0) (v := mE (x_rho ad) (.inr x)) (ty := (.object RX0)) (C := RX0) (T := TX0) (N := 9) (own := RX6) hx hb hts in_X0 tyX0 tyX0_ok nmX0 hown hK.1 hat rfl 5 (by decide) (hts _ wd_200) (Or.inl rfl) rfl x_fitsO.1 x_fitsO.2 (Nat.le_of_ble_eq_true rfl) hd (fun H1 sl ha hz hq => kk _ _ _ _ _ _ _ _ h (x_putO (s0 := s0) (locs := locs) (sl := sl) (o' := (0, oi, va_up or 5 x)) hW hS ho ha hz hq).1 (x_putO (s0 := s0) (locs := locs) (sl := sl) (o' := (0, oi, va_up or 5 x)) hW hS ho ha hz hq).2 hc hs)
  · cases hf; cases hci
    rcases v with x | x
    · exact vx_put (D := D) (ci := 2) (v := .int x) (ty := .int) (C := RX2) (T := TX2) (N := 4) (own := RX6) hx hb hts in_X2 tyX2 tyX2_ok nmX2 hown hK.1 hat rfl 2 (by decide) (hts _ wd_94) (Or.inl rfl) rfl rfl rfl (Nat.le_of_ble_eq_true rfl) hd (fun H1 sl ha hz hq => kk _ _ _ _ _ _ _ _ h (x_putO (s0 := s0) (locs := locs) (sl := sl) (o' := (2, upd oi 2 x, or)) hW hS ho ha hz hq).1 (x_putO (s0 := s0) (locs := locs) (sl := sl) (o' := (2, upd oi 2 x, or)) hW hS ho ha hz hq).2 hc hs)
    · exact h.elim
  · cases hf; cases hci
    rcases v with x | x
    · exact vx_put (D := D) (ci := 2) (v := .int x) (ty := .int) (C := RX2) (T := TX2) (N := 4) (own := RX6) hx hb hts in_X2 tyX2 tyX2_ok nmX2 hown hK.1 hat rfl 3 (by decide) (hts _ wd_96) (Or.inl rfl) rfl rfl rfl (Nat.le_of_ble_eq_true rfl) hd (fun H1 sl ha hz hq => kk _ _ _ _ _ _ _ _ h (x_putO (s0 := s0) (locs := locs) (sl := sl) (o' := (2, upd oi 3 x, or)) hW hS ho ha hz hq).1 (x_putO (s0 := s0) (locs := locs) (sl := sl) (o' := (2, upd oi 3 x, or)) hW hS ho ha hz hq).2 hc hs)
    · exact h.elim
  · cases hf
end XS
