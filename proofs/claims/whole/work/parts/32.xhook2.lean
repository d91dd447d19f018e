section VY
variable {p : Program} {l : Launch} {e : Env} {R : Room} {s : State} {m : MethodId} {args : Array Value} {below : List Frame} {meth : Method} {c : Code} {H : Heap} {locs : List Loc} {cells slots : Nat} {Q : State → Prop}
variable {cc : ByteArray} {pc : Nat} {ls : Array Slot} {rest : List Value} {D : va_G} {cl : List vw_C} {a : Nat} {tys : List (ClassId × FieldType)}
theorem vx_new (hexec : p.tables.exec = Jvm.exec) (hb : c.code = cc) {own C : String} {T : u_T} {N ci index : Nat} {Ts : List Cond} (hts : ∀ w ∈ Ts, w.before args s = true) (hin : ∀ w ∈ u_ws C T N, w ∈ Ts) (ty : Nat → FieldType) (hty : ∀ k, k < N → parseFieldDescriptor (T k).2.2.1 = some (ty k)) (hown : s.vm.findClass own = some m.cls) (hcl : (Cond.classLink own index C).before args s = true) (hinst : (Cond.instantiable C N).before args s = true) (hini : (Cond.initialized C).before args s = true)
    (hK : va_K D cl tys s) (hc : cl[ci]? = some (C, T, N)) {fs : List Value} (hfs : ∀ j, j < N → defaultValue (ty j) = vp_V fs j) (hcells : cells + 1 ≤ R.cells) (hslots : slots + N ≤ R.slots) (hdg : decode cc pc = .ok (.new index, 3))
    (kk : ∀ (H1 : Heap), va_at D cl (H.size, .inr (ci, fs)) H1 → H1.size = H.size + 1 → (∀ q, q < H.size → H1[q]? = H[q]?) → W p l e R s m args below meth c H1 locs (cells + 1) (slots + N) Q (F0 m (pc + 3) ls (.ref H.size :: rest))) : W p l e R s m args below meth c H locs cells slots Q (F0 m pc ls rest) := by
  have hKn := hK.1 ci _ hc
  refine W.newcK hexec hb hown hcl hinst hini rfl hdg hcells hslots hKn.2.1 rfl fun H1 kC hkC e1 z1 o1 => ?_
  exact kk H1 ⟨_, hc, (u_born ty hts hin hKn hkC e1 hty).to hfs⟩ z1 o1
theorem vx_newi (hexec : p.tables.exec = Jvm.exec) (hb : c.code = cc) (harr : (Cond.arrayClass .int).before args s = true) (hK : va_K D cl tys s) (t0 : Nat) {cA : ClassId} (ht : tys[t0]? = some (cA, .int)) {n : Int32} (hn : ¬ n < 0) (hbytes : n.toNatClampNeg ≤ 100000) (hcells : cells + 1 ≤ R.cells) (hslots : slots + n.toNatClampNeg ≤ R.slots) (hdg : decode cc pc = .ok (.newarray .int, 2))
    (kk : ∀ (H1 : Heap), va_at D cl (H.size, .inl (cA, n.toNatClampNeg, .inl (fun _ => 0))) H1 → H1.size = H.size + 1 → (∀ q, q < H.size → H1[q]? = H[q]?) → W p l e R s m args below meth c H1 locs (cells + 1) (slots + n.toNatClampNeg) Q (F0 m (pc + 2) ls (.ref H.size :: rest))) : W p l e R s m args below meth c H locs cells slots Q (F0 m pc ls (.int n :: rest)) := by
  refine va_newaK (atype := .int) hexec hb harr rfl hdg rfl hn rfl (by show n.toNatClampNeg * 4 ≤ 536870912; omega) hcells hslots rfl fun H1 cA' e1 z1 o1 hAr hNm => ?_
  have h2 : s.vm.findClass ("[" ++ (FieldType.int).toString) = some cA := (hK.2 t0 _ ht).2
  have h3 : cA' = cA := Option.some.inj (hNm.symm.trans h2)
  subst h3
  exact kk H1 e1 z1 o1
theorem vx_newq (hexec : p.tables.exec = Jvm.exec) (hb : c.code = cc) {own C : String} {index : Nat} (hown : s.vm.findClass own = some m.cls) (hclink : (Cond.classLink own index C).before args s = true) (hover : va_AO C s) (hK : va_K D cl tys s) (t0 : Nat) {cA : ClassId} (ht : tys[t0]? = some (cA, .object C)) {n : Int32} (hn : ¬ n < 0) (hbytes : n.toNatClampNeg ≤ 100000) (hcells : cells + 1 ≤ R.cells) (hslots : slots + n.toNatClampNeg ≤ R.slots) (hdg : decode cc pc = .ok (.anewarray index, 3))
    (kk : ∀ (H1 : Heap), va_at D cl (H.size, .inl (cA, n.toNatClampNeg, .inr (.inr (.inr (.inr (fun _ => none)))))) H1 → H1.size = H.size + 1 → (∀ q, q < H.size → H1[q]? = H[q]?) → W p l e R s m args below meth c H1 locs (cells + 1) (slots + n.toNatClampNeg) Q (F0 m (pc + 3) ls (.ref H.size :: rest))) : W p l e R s m args below meth c H locs cells slots Q (F0 m pc ls (.int n :: rest)) := by
  refine W.anew hexec hb hown hclink (va_AO.use hover) rfl hdg rfl hn (by omega) hcells hslots fun cA' kA comp f1 f2 f3 f4 => ?_
  obtain ⟨kA2, comp2, -, -, -, h2⟩ := (hK.2 t0 _ ht).2
  have h3 : cA' = cA := Option.some.inj (f1.symm.trans h2)
  subst h3
  refine kk _ ?_ (by rw [Array.size_push]) (fun q hq => by rw [Array.getElem?_push, if_neg (Nat.ne_of_lt hq)])
  show _ = some (vp_cell _ _)
  rw [vp_cell_q, Array.getElem?_push_size, ← arrV_new]
  rfl
end VY
section XT
variable {p : Program} {l : Launch} {e : Env} {R : Room} {s0 : State} {m : MethodId} {args : Array Value} {below : List Frame} {meth : Method} {c : Code} {cc : ByteArray} {nL : Nat} {D : va_G} {cs ad : Nat → Nat} {A : Nat → Prop} {Q : State → Prop}
theorem x_grow {H H1 : Heap} {locs : List Loc} (hS : va_S A s0.heap H locs) (hz : H1.size = H.size + 1) (hq : ∀ q, q < H.size → H1[q]? = H[q]?) : va_S A s0.heap H1 locs := ⟨Nat.le_trans hS.1 (by omega), fun x h1 h2 => (hq x (Nat.lt_of_lt_of_le h1 hS.1)).trans (hS.2.1 x h1 h2), hS.2.2⟩
theorem x_setG {σ : xS} {H H1 : Heap} {locs : List Loc} {r sl : Nat} {t t' : Nat × (Nat → Int32)} (hW : x_W D cs ad A σ H) (hS : va_S A s0.heap H locs) (ht : σ.2.1 r = some t) (h22 : r ≠ 22) (h23 : r ≠ 23) (hat : va_at D classes (x_rho ad r, .inl (cs 0, t'.1, .inl t'.2)) H1) (hz : H1.size = H.size) (hq : ∀ q, q ≠ x_rho ad r → H1[q]? = H[q]?) : x_W D cs ad A (σ.1, va_up σ.2.1 r (some t'), σ.2.2) H1 ∧ va_S A s0.heap H1 (locs ++ [⟨x_rho ad r, sl⟩]) := by
  have he := x_eG (cs := cs) (ad := ad) hW.2.2 ⟨h22, h23⟩ ht
  have hA : A (x_rho ad r) := by
    rcases (hW.1 r _ he).2 with h | ⟨-, h | h⟩
    · exact h
    · exact absurd h h22
    · exact absurd h h23
  have hX := x_X_G (t' := t') hW.2.2 ⟨h22, h23⟩ ht
  have he' : x_e cs ad (σ.1, va_up σ.2.1 r (some t'), σ.2.2) r = some (.inl (cs 0, t'.1, .inl t'.2)) := x_eG hX ⟨h22, h23⟩ (show va_up σ.2.1 r (some t') r = some t' from va_up_self _ _ _)
  exact ⟨x_W_upd hW he he' (fun j hj => x_eq_G hj) (fun j hj => rfl) hX hat hq hA, hS.put hz hq hA⟩
theorem x_setR {σ : xS} {H H1 : Heap} {locs : List Loc} {r sl : Nat} {t t' : Nat × (Nat → Option Nat)} (hW : x_W D cs ad A σ H) (hS : va_S A s0.heap H locs) (ht : σ.2.2 r = some t) (h22 : r ≠ 22) (h23 : r ≠ 23) (hat : va_at D classes (x_rho ad r, .inl (cs 2, t'.1, .inr (.inr (.inr (.inr (fun j => (t'.2 j).map (x_rho ad))))))) H1) (hz : H1.size = H.size) (hq : ∀ q, q ≠ x_rho ad r → H1[q]? = H[q]?) : x_W D cs ad A (σ.1, σ.2.1, va_up σ.2.2 r (some t')) H1 ∧ va_S A s0.heap H1 (locs ++ [⟨x_rho ad r, sl⟩]) := by
  have he := x_eR (cs := cs) (ad := ad) hW.2.2 ht
  have hA : A (x_rho ad r) := by
    rcases (hW.1 r _ he).2 with h | ⟨-, h | h⟩
    · exact h
    · exact absurd h h22
    · exact absurd h h23
  have hX := x_X_R (t' := t') hW.2.2 ht
  have he' : x_e cs ad (σ.1, σ.2.1, va_up σ.2.2 r (some t')) r = some (.inl (cs 2, t'.1, .inr (.inr (.inr (.inr (fun j => (t'.2 j).map (x_rho ad))))))) := x_eR hX (show va_up σ.2.2 r (some t') r = some t' from va_up_self _ _ _)
  exact ⟨x_W_upd hW he he' (fun j hj => x_eq_R hj) (fun j hj => rfl) hX hat hq hA, hS.put hz hq hA⟩
theorem x_iald (hexec : p.tables.exec = Jvm.exec) (hb : c.code = cc) (hK : kk D cs (fun i => ad (22 + i)) A s0) {σ : xS} {H : Heap} {locs : List Loc} {cells slots pc r : Nat} {ls : Array Slot} {rest : List Value} {t : Nat × (Nat → Int32)} {i : Int32} (hW : x_W D cs ad A σ H) (hS : va_S A s0.heap H locs) (ht : σ.2.1 r = some t) (hi : vp_in i t.1) (hd : decode cc pc = .ok (.iaload, 1)) (k : W p l e R s0 m args below meth c H locs cells slots Q (F0 m (pc + 1) ls (.int (t.2 i.toNatClampNeg) :: rest))) : W p l e R s0 m args below meth c H locs cells slots Q (F0 m pc ls (.int i :: .ref (x_rho ad r) :: rest)) := by
  by_cases h22 : r = 22
  · subst h22
    obtain ⟨e1, e2⟩ := hW.2.2.2.2.1 t ht
    rw [e1] at hi
    have hlt : i.toNatClampNeg < 3 := Nat.not_le.mp fun q => hi (Or.inr q)
    exact va_ti hexec hb hK.2.2.2.1.2 hS hi (by rw [e2 _ hlt]) hd k
  by_cases h23 : r = 23
  · subst h23
    obtain ⟨e1, e2⟩ := hW.2.2.2.2.2 t ht
    rw [e1] at hi
    have hlt : i.toNatClampNeg < 3 := Nat.not_le.mp fun q => hi (Or.inr q)
    exact va_ti hexec hb hK.2.2.2.2.2 hS hi (by rw [e2 _ hlt]) hd k
  exact va_iald hexec hb hK.1 (vx_P1 (hW.1 _ _ (x_eG hW.2.2 ⟨h22, h23⟩ ht)).1) 0 0 rfl rfl hi hd k
theorem x_alen (hexec : p.tables.exec = Jvm.exec) (hb : c.code = cc) (hK : kk D cs (fun i => ad (22 + i)) A s0) {σ : xS} {H : Heap} {locs : List Loc} {cells slots pc r : Nat} {ls : Array Slot} {rest : List Value} {t : Nat × (Nat → Int32)} (hW : x_W D cs ad A σ H) (hS : va_S A s0.heap H locs) (ht : σ.2.1 r = some t) (hd : decode cc pc = .ok (.arraylength, 1)) (k : W p l e R s0 m args below meth c H locs cells slots Q (F0 m (pc + 1) ls (.int (nI t.1) :: rest))) : W p l e R s0 m args below meth c H locs cells slots Q (F0 m pc ls (.ref (x_rho ad r) :: rest)) := by
  by_cases h22 : r = 22
  · subst h22
    obtain ⟨e1, -⟩ := hW.2.2.2.2.1 t ht
    exact va_tlen hexec hb hK.2.2.2.1.2 hS (by rw [e1]; rfl) hd k
  by_cases h23 : r = 23
  · subst h23
    obtain ⟨e1, -⟩ := hW.2.2.2.2.2 t ht
    exact va_tlen hexec hb hK.2.2.2.2.2 hS (by rw [e1]; rfl) hd k
  exact va_alen hexec hb hK.1 (vx_P1 (hW.1 _ _ (x_eG hW.2.2 ⟨h22, h23⟩ ht)).1) 0 0 rfl rfl rfl hd k
theorem x_upR (ad : Nat → Nat) (f : Nat → Option Nat) (i : Nat) (v : Option Nat) : va_up (fun j => (f j).map (x_rho ad)) i (v.map (x_rho ad)) = fun j => (va_up f i v j).map (x_rho ad) := by
  funext j
  by_cases hj : j = i
  · subst hj; rw [va_up_self, va_up_self]
  · rw [va_up_ne _ _ hj, va_up_ne _ _ hj]

set_option maxHeartbeats 8000000 in
set_option maxRecDepth 20000 in
theorem x_HS_0 {ini : Bool} (hini : ini = true → meth.name = "<init>") (F : CallFix p m c cc nL s0 args tb RX0) (hK : kk D cs (fun i => ad (22 + i)) A s0) (hA : ∀ q : Nat, s0.heap.size ≤ q → A q) : mm_HS p l e R s0 m args below meth c cc (x_W D cs ad A) (x_rho ad) A (x_hk ini 0) Q := by
  intro ins len pc st s a b k h hd hn H locs cells slots ls hW hS hc hs kk
  have hAn : A H.size := hA _ hS.1
  by_cases h1 : ∃ i, ins = .getfield i
  · obtain ⟨i, rfl⟩ := h1
    obtain rfl : len = 3 := by simpa [mm_okl] using hn
    exact x_get_0 (len := 3) F hK h hd hW hS hc hs kk
  by_cases h2 : ∃ i, ins = .putfield i
  · obtain ⟨i, rfl⟩ := h2
    obtain rfl : len = 3 := by simpa [mm_okl] using hn
    exact x_put_0 (len := 3) F hK hini h hd hW hS hc hs kk
  obtain ⟨hx, hb, hml, hown, hts⟩ := F
  unfold x_hk at h
  split at h
  all_goals (try exact h.elim)
  · exact absurd ⟨_, rfl⟩ h1
  · exact absurd ⟨_, rfl⟩ h2
  -- iaload
  · obtain rfl : len = 1 := by simpa [mm_okl] using hn
    split at h <;> (try exact h.elim)
    obtain ⟨t, ht, hi, h⟩ := h
    exact x_iald hx hb hK hW hS ht hi hd (kk _ _ _ _ _ _ _ _ h hW hS hc hs)
  -- iastore
  · obtain rfl : len = 1 := by simpa [mm_okl] using hn
    split at h <;> (try exact h.elim)
    rename_i v i r st'
    obtain ⟨t, ht, g1, g2, hi, h⟩ := h
    exact vx_iast hx hb hK.1 0 (hW.1 _ _ (x_eG hW.2.2 ⟨g1, g2⟩ ht)).1 rfl hi hd (fun H1 sl ha hz hq => kk _ _ _ _ _ _ _ _ h (x_setG (s0 := s0) (locs := locs) (sl := sl) (t' := (t.1, upd t.2 i.toNatClampNeg v)) hW hS ht g1 g2 ha hz hq).1 (x_setG (s0 := s0) (locs := locs) (sl := sl) (t' := (t.1, upd t.2 i.toNatClampNeg v)) hW hS ht g1 g2 ha hz hq).2 hc hs)
  -- aaload
  · obtain rfl : len = 1 := by simpa [mm_okl] using hn
    split at h <;> (try exact h.elim)
    rename_i i r st'
    obtain ⟨t, ht, hi, h⟩ := h
    refine va_aldq hx hb hK.1 (vx_P1 (hW.1 _ _ (x_eR hW.2.2 ht)).1) 0 2 rfl rfl hi hd ?_
    rw [← mE_rf]
    exact kk _ _ _ _ _ _ _ _ h hW hS hc hs
  -- aastore
  · obtain rfl : len = 1 := by simpa [mm_okl] using hn
    split at h <;> (try exact h.elim)
    rename_i v i r st'
    obtain ⟨t, ht, g1, g2, hi, g3, h⟩ := h
    have hat := (hW.1 _ _ (x_eR hW.2.2 ht)).1
    rcases v with _ | v
    · refine vx_astqN (C := RX0) hx hb hK.1 2 hat rfl hi hd (fun H1 sl ha hz hq => ?_)
      have ha' := ha
      rw [show (none : Option Nat) = (none : Option Nat).map (x_rho ad) from rfl, x_upR] at ha'
      exact kk _ _ _ _ _ _ _ _ h (x_setR (s0 := s0) (locs := locs) (sl := sl) (t' := (t.1, va_up t.2 i.toNatClampNeg none)) hW hS ht g1 g2 ha' hz hq).1 (x_setR (s0 := s0) (locs := locs) (sl := sl) (t' := (t.1, va_up t.2 i.toNatClampNeg none)) hW hS ht g1 g2 ha' hz hq).2 hc hs
    · obtain ⟨⟨ci, oi, or⟩, ho, hci⟩ := g3 v rfl
      cases hci
      refine vx_astq (r := (RX0, TX0, 9)) hx hb hK.1 2 0 hat rfl (hW.1 _ _ (x_eO (x_n0 hW.2.2 ho) ho)).1 rfl hi hd (fun H1 sl ha hz hq => ?_)
      have ha' := ha
      rw [show some (x_rho ad v) = (some v).map (x_rho ad) from rfl, x_upR] at ha'
      exact kk _ _ _ _ _ _ _ _ h (x_setR (s0 := s0) (locs := locs) (sl := sl) (t' := (t.1, va_up t.2 i.toNatClampNeg (some v))) hW hS ht g1 g2 ha' hz hq).1 (x_setR (s0 := s0) (locs := locs) (sl := sl) (t' := (t.1, va_up t.2 i.toNatClampNeg (some v))) hW hS ht g1 g2 ha' hz hq).2 hc hs
  -- arraylength
  · obtain rfl : len = 1 := by simpa [mm_okl] using hn
    split at h <;> (try exact h.elim)
    rename_i r st'
    obtain ⟨n, hl, h⟩ := h
    unfold x_len at hl
    split at hl
    · rename_i t ht
      cases hl
      exact x_alen hx hb hK hW hS ht hd (kk _ _ _ _ _ _ _ _ h hW hS hc hs)
    · obtain ⟨t, ht, hl⟩ := Option.map_eq_some_iff.mp hl
      cases hl
      exact va_alen hx hb hK.1 (vx_P1 (hW.1 _ _ (x_eR hW.2.2 ht)).1) 0 2 rfl rfl rfl hd (kk _ _ _ _ _ _ _ _ h hW hS hc hs)
  -- new
  · rename_i i
    obtain rfl : len = 3 := by simpa [mm_okl] using hn
    split at h <;> (try exact h.elim)
    rename_i ci hci
    obtain ⟨ga, gb, h⟩ := h
    have hfr := x_none (x_fresh hW)
    have h' := h (H.size + 24) (by omega) hfr.1 hfr.2.1 hfr.2.2
    replace hci : x_cl0 i = some ci := hci
    unfold x_cl0 at hci
    split at hci
    · cases hci
      refine vx_new (ci := 0) (fs := [.int 0, .int 0, .null, .null, .null, .null, .int 0, .int 0, .int 0]) (C := RX0) (T := TX0) (N := 9) (own := RX0) hx hb hts in_X0 tyX0 tyX0_ok hown (hts _ wd_170) (hts _ wd_171) (hts _ wd_55) hK.1 rfl (fun j hj => by rcases (show j = 0 ∨ j = 1 ∨ j = 2 ∨ j = 3 ∨ j = 4 ∨ j = 5 ∨ j = 6 ∨ j = 7 ∨ j = 8 by omega) with rfl | rfl | rfl | rfl | rfl | rfl | rfl | rfl | rfl <;> rfl) (by omega) (by have hb : x_nf 0 = 9 := rfl; omega) hd (fun H1 ha hz hq => ?_)
      have hX := x_X_nO (o' := (0, fun _ => 0, fun _ => none)) hW.2.2 hfr.2.1 hfr.2.2
      have he : x_e cs ad (va_up s.1 (H.size + 24) (some (0, fun _ => 0, fun _ => none)), s.2) (H.size + 24) = some (.inr (0, x_fs ad (0, fun _ => 0, fun _ => none))) := x_eO (o := (0, fun _ => 0, fun _ => none)) (x_h24 _) (va_up_self _ _ _)
      have hw := x_W_new hW he (fun j hj => x_eq_O hj) (fun j hj => va_up_ne _ _ hj) hX ha hq hAn
      have hk := kk _ _ _ _ H1 locs (cells + 1) (slots + 9) h' hw (x_grow hS hz hq) (by omega) (by have hb : x_nf 0 = 9 := rfl; omega)
      rw [List.map_cons, show mE (x_rho ad) (.inr (some (H.size + 24))) = .ref H.size from by rw [mE, x_rho_new]] at hk
      exact hk
    · cases hci
  -- newarray
  · obtain rfl : len = 2 := by simpa [mm_okl] using hn
    split at h <;> (try exact h.elim)
    rename_i n st'
    obtain ⟨gn, ga, gb, gl, h⟩ := h
    have hfr := x_none (x_fresh hW)
    have h' := h (H.size + 24) (by omega) hfr.1 hfr.2.1 hfr.2.2
    refine vx_newi hx hb (hts _ wd_83) hK.1 0 rfl gn gl (by omega) (by omega) hd (fun H1 ha hz hq => ?_)
    have hX := x_X_nG (t' := (n.toNatClampNeg, fun _ => 0)) hW.2.2 hfr.1 hfr.2.2
    have he : x_e cs ad (s.1, va_up s.2.1 (H.size + 24) (some (n.toNatClampNeg, fun _ => 0)), s.2.2) (H.size + 24) = some (.inl (cs 0, n.toNatClampNeg, .inl (fun _ => 0))) := x_eG (t := (n.toNatClampNeg, fun _ => 0)) hX (x_h24 _) (va_up_self _ _ _)
    have hw := x_W_new hW he (fun j hj => x_eq_G hj) (fun j hj => rfl) hX ha hq hAn
    have hk := kk _ _ _ _ H1 locs (cells + 1) (slots + n.toNatClampNeg) h' hw (x_grow hS hz hq) (by omega) (by omega)
    rw [List.map_cons, show mE (x_rho ad) (.inr (some (H.size + 24))) = .ref H.size from by rw [mE, x_rho_new]] at hk
    exact hk
  -- anewarray
  · rename_i i
    split at h <;> (try exact h.elim)
    rename_i n st'
    split at h <;> (try exact h.elim)
    rename_i hci
    obtain ⟨gn, ga, gb, gl, h⟩ := h
    have hfr := x_none (x_fresh hW)
    have h' := h (H.size + 24) (by omega) hfr.1 hfr.2.1 hfr.2.2
    obtain rfl : len = 3 := by simpa [mm_okl] using hn
    have hlk : (Cond.classLink RX0 i RX0).before args s0 = true := by
      replace hci : x_cl0 i = some 0 := hci
      unfold x_cl0 at hci
      split at hci
      · exact hts _ wd_170
      · cases hci
    refine vx_newq hx hb hown hlk hK.2.2.1 hK.1 2 rfl gn gl (by omega) (by omega) hd (fun H1 ha hz hq => ?_)
    have hX := x_X_nR (t' := (n.toNatClampNeg, fun _ => none)) hW.2.2 hfr.1 hfr.2.1
    have he : x_e cs ad (s.1, s.2.1, va_up s.2.2 (H.size + 24) (some (n.toNatClampNeg, fun _ => none))) (H.size + 24) = some (.inl (cs 2, n.toNatClampNeg, .inr (.inr (.inr (.inr (fun j => ((fun _ => none : Nat → Option Nat) j).map (x_rho ad))))))) := x_eR (t := (n.toNatClampNeg, fun _ => none)) hX (va_up_self _ _ _)
    have hw := x_W_new hW he (fun j hj => x_eq_R hj) (fun j hj => rfl) hX ha hq hAn
    have hk := kk _ _ _ _ H1 locs (cells + 1) (slots + n.toNatClampNeg) h' hw (x_grow hS hz hq) (by omega) (by omega)
    rw [List.map_cons, show mE (x_rho ad) (.inr (some (H.size + 24))) = .ref H.size from by rw [mE, x_rho_new]] at hk
    exact hk
set_option maxHeartbeats 8000000 in
set_option maxRecDepth 20000 in
theorem x_HS_1 {ini : Bool} (hini : ini = true → meth.name = "<init>") (F : CallFix p m c cc nL s0 args tb RX1) (hK : kk D cs (fun i => ad (22 + i)) A s0) (hA : ∀ q : Nat, s0.heap.size ≤ q → A q) : mm_HS p l e R s0 m args below meth c cc (x_W D cs ad A) (x_rho ad) A (x_hk ini 1) Q := by
  intro ins len pc st s a b k h hd hn H locs cells slots ls hW hS hc hs kk
  have hAn : A H.size := hA _ hS.1
  by_cases h1 : ∃ i, ins = .getfield i
  · obtain ⟨i, rfl⟩ := h1
    obtain rfl : len = 3 := by simpa [mm_okl] using hn
    exact x_get_1 (len := 3) F hK h hd hW hS hc hs kk
  by_cases h2 : ∃ i, ins = .putfield i
  · obtain ⟨i, rfl⟩ := h2
    obtain rfl : len = 3 := by simpa [mm_okl] using hn
    exact x_put_1 (len := 3) F hK hini h hd hW hS hc hs kk
  obtain ⟨hx, hb, hml, hown, hts⟩ := F
  unfold x_hk at h
  split at h
  all_goals (try exact h.elim)
  · exact absurd ⟨_, rfl⟩ h1
  · exact absurd ⟨_, rfl⟩ h2
  -- iaload
  · obtain rfl : len = 1 := by simpa [mm_okl] using hn
    split at h <;> (try exact h.elim)
    obtain ⟨t, ht, hi, h⟩ := h
    exact x_iald hx hb hK hW hS ht hi hd (kk _ _ _ _ _ _ _ _ h hW hS hc hs)
  -- iastore
  · obtain rfl : len = 1 := by simpa [mm_okl] using hn
    split at h <;> (try exact h.elim)
    rename_i v i r st'
    obtain ⟨t, ht, g1, g2, hi, h⟩ := h
    exact vx_iast hx hb hK.1 0 (hW.1 _ _ (x_eG hW.2.2 ⟨g1, g2⟩ ht)).1 rfl hi hd (fun H1 sl ha hz hq => kk _ _ _ _ _ _ _ _ h (x_setG (s0 := s0) (locs := locs) (sl := sl) (t' := (t.1, upd t.2 i.toNatClampNeg v)) hW hS ht g1 g2 ha hz hq).1 (x_setG (s0 := s0) (locs := locs) (sl := sl) (t' := (t.1, upd t.2 i.toNatClampNeg v)) hW hS ht g1 g2 ha hz hq).2 hc hs)
  -- aaload
  · obtain rfl : len = 1 := by simpa [mm_okl] using hn
    split at h <;> (try exact h.elim)
    rename_i i r st'
    obtain ⟨t, ht, hi, h⟩ := h
    refine va_aldq hx hb hK.1 (vx_P1 (hW.1 _ _ (x_eR hW.2.2 ht)).1) 0 2 rfl rfl hi hd ?_
    rw [← mE_rf]
    exact kk _ _ _ _ _ _ _ _ h hW hS hc hs
  -- aastore
  · obtain rfl : len = 1 := by simpa [mm_okl] using hn
    split at h <;> (try exact h.elim)
    rename_i v i r st'
    obtain ⟨t, ht, g1, g2, hi, g3, h⟩ := h
    have hat := (hW.1 _ _ (x_eR hW.2.2 ht)).1
    rcases v with _ | v
    · refine vx_astqN (C := RX0) hx hb hK.1 2 hat rfl hi hd (fun H1 sl ha hz hq => ?_)
      have ha' := ha
      rw [show (none : Option Nat) = (none : Option Nat).map (x_rho ad) from rfl, x_upR] at ha'
      exact kk _ _ _ _ _ _ _ _ h (x_setR (s0 := s0) (locs := locs) (sl := sl) (t' := (t.1, va_up t.2 i.toNatClampNeg none)) hW hS ht g1 g2 ha' hz hq).1 (x_setR (s0 := s0) (locs := locs) (sl := sl) (t' := (t.1, va_up t.2 i.toNatClampNeg none)) hW hS ht g1 g2 ha' hz hq).2 hc hs
    · obtain ⟨⟨ci, oi, or⟩, ho, hci⟩ := g3 v rfl
      cases hci
      refine vx_astq (r := (RX0, TX0, 9)) hx hb hK.1 2 0 hat rfl (hW.1 _ _ (x_eO (x_n0 hW.2.2 ho) ho)).1 rfl hi hd (fun H1 sl ha hz hq => ?_)
      have ha' := ha
      rw [show some (x_rho ad v) = (some v).map (x_rho ad) from rfl, x_upR] at ha'
      exact kk _ _ _ _ _ _ _ _ h (x_setR (s0 := s0) (locs := locs) (sl := sl) (t' := (t.1, va_up t.2 i.toNatClampNeg (some v))) hW hS ht g1 g2 ha' hz hq).1 (x_setR (s0 := s0) (locs := locs) (sl := sl) (t' := (t.1, va_up t.2 i.toNatClampNeg (some v))) hW hS ht g1 g2 ha' hz hq).2 hc hs
  -- arraylength
  · obtain rfl : len = 1 := by simpa [mm_okl] using hn
    split at h <;> (try exact h.elim)
    rename_i r st'
    obtain ⟨n, hl, h⟩ := h
    unfold x_len at hl
    split at hl
    · rename_i t ht
      cases hl
      exact x_alen hx hb hK hW hS ht hd (kk _ _ _ _ _ _ _ _ h hW hS hc hs)
    · obtain ⟨t, ht, hl⟩ := Option.map_eq_some_iff.mp hl
      cases hl
      exact va_alen hx hb hK.1 (vx_P1 (hW.1 _ _ (x_eR hW.2.2 ht)).1) 0 2 rfl rfl rfl hd (kk _ _ _ _ _ _ _ _ h hW hS hc hs)
  -- new
  · rename_i i
    obtain rfl : len = 3 := by simpa [mm_okl] using hn
    split at h <;> (try exact h.elim)
    rename_i ci hci
    obtain ⟨ga, gb, h⟩ := h
    have hfr := x_none (x_fresh hW)
    have h' := h (H.size + 24) (by omega) hfr.1 hfr.2.1 hfr.2.2
    replace hci : x_cl1 i = some ci := hci
    unfold x_cl1 at hci
    split at hci
    · cases hci
      refine vx_new (ci := 0) (fs := [.int 0, .int 0, .null, .null, .null, .null, .int 0, .int 0, .int 0]) (C := RX0) (T := TX0) (N := 9) (own := RX1) hx hb hts in_X0 tyX0 tyX0_ok hown (hts _ wd_112) (hts _ wd_171) (hts _ wd_55) hK.1 rfl (fun j hj => by rcases (show j = 0 ∨ j = 1 ∨ j = 2 ∨ j = 3 ∨ j = 4 ∨ j = 5 ∨ j = 6 ∨ j = 7 ∨ j = 8 by omega) with rfl | rfl | rfl | rfl | rfl | rfl | rfl | rfl | rfl <;> rfl) (by omega) (by have hb : x_nf 0 = 9 := rfl; omega) hd (fun H1 ha hz hq => ?_)
      have hX := x_X_nO (o' := (0, fun _ => 0, fun _ => none)) hW.2.2 hfr.2.1 hfr.2.2
      have he : x_e cs ad (va_up s.1 (H.size + 24) (some (0, fun _ => 0, fun _ => none)), s.2) (H.size + 24) = some (.inr (0, x_fs ad (0, fun _ => 0, fun _ => none))) := x_eO (o := (0, fun _ => 0, fun _ => none)) (x_h24 _) (va_up_self _ _ _)
      have hw := x_W_new hW he (fun j hj => x_eq_O hj) (fun j hj => va_up_ne _ _ hj) hX ha hq hAn
      have hk := kk _ _ _ _ H1 locs (cells + 1) (slots + 9) h' hw (x_grow hS hz hq) (by omega) (by have hb : x_nf 0 = 9 := rfl; omega)
      rw [List.map_cons, show mE (x_rho ad) (.inr (some (H.size + 24))) = .ref H.size from by rw [mE, x_rho_new]] at hk
      exact hk
    · cases hci
  -- newarray
  · obtain rfl : len = 2 := by simpa [mm_okl] using hn
    split at h <;> (try exact h.elim)
    rename_i n st'
    obtain ⟨gn, ga, gb, gl, h⟩ := h
    have hfr := x_none (x_fresh hW)
    have h' := h (H.size + 24) (by omega) hfr.1 hfr.2.1 hfr.2.2
    refine vx_newi hx hb (hts _ wd_83) hK.1 0 rfl gn gl (by omega) (by omega) hd (fun H1 ha hz hq => ?_)
    have hX := x_X_nG (t' := (n.toNatClampNeg, fun _ => 0)) hW.2.2 hfr.1 hfr.2.2
    have he : x_e cs ad (s.1, va_up s.2.1 (H.size + 24) (some (n.toNatClampNeg, fun _ => 0)), s.2.2) (H.size + 24) = some (.inl (cs 0, n.toNatClampNeg, .inl (fun _ => 0))) := x_eG (t := (n.toNatClampNeg, fun _ => 0)) hX (x_h24 _) (va_up_self _ _ _)
    have hw := x_W_new hW he (fun j hj => x_eq_G hj) (fun j hj => rfl) hX ha hq hAn
    have hk := kk _ _ _ _ H1 locs (cells + 1) (slots + n.toNatClampNeg) h' hw (x_grow hS hz hq) (by omega) (by omega)
    rw [List.map_cons, show mE (x_rho ad) (.inr (some (H.size + 24))) = .ref H.size from by rw [mE, x_rho_new]] at hk
    exact hk
  -- anewarray
  · rename_i i
    split at h <;> (try exact h.elim)
    rename_i n st'
    split at h <;> (try exact h.elim)
    rename_i hci
    obtain ⟨gn, ga, gb, gl, h⟩ := h
    have hfr := x_none (x_fresh hW)
    have h' := h (H.size + 24) (by omega) hfr.1 hfr.2.1 hfr.2.2
    obtain rfl : len = 3 := by simpa [mm_okl] using hn
    have hlk : (Cond.classLink RX1 i RX0).before args s0 = true := by
      replace hci : x_cl1 i = some 0 := hci
      unfold x_cl1 at hci
      split at hci
      · exact hts _ wd_112
      · cases hci
    refine vx_newq hx hb hown hlk hK.2.2.1 hK.1 2 rfl gn gl (by omega) (by omega) hd (fun H1 ha hz hq => ?_)
    have hX := x_X_nR (t' := (n.toNatClampNeg, fun _ => none)) hW.2.2 hfr.1 hfr.2.1
    have he : x_e cs ad (s.1, s.2.1, va_up s.2.2 (H.size + 24) (some (n.toNatClampNeg, fun _ => none))) (H.size + 24) = some (.inl (cs 2, n.toNatClampNeg, .inr (.inr (.inr (.inr (fun j => ((fun _ => none : Nat → Option Nat) j).map (x_rho ad))))))) := x_eR (t := (n.toNatClampNeg, fun _ => none)) hX (va_up_self _ _ _)
    have hw := x_W_new hW he (fun j hj => x_eq_R hj) (fun j hj => rfl) hX ha hq hAn
    have hk := kk _ _ _ _ H1 locs (cells + 1) (slots + n.toNatClampNeg) h' hw (x_grow hS hz hq) (by omega) (by omega)
    rw [List.map_cons, show mE (x_rho ad) (.inr (some (H.size + 24))) = .ref H.size from by rw [mE, x_rho_new]] at hk
    exact hk
set_option maxHeartbeats 8000000 in
set_option maxRecDepth 20000 in
theorem x_HS_2 {ini : Bool} (hini : ini = true → meth.name = "<init>") (F : CallFix p m c cc nL s0 args tb RX2) (hK : kk D cs (fun i => ad (22 + i)) A s0) (hA : ∀ q : Nat, s0.heap.size ≤ q → A q) : mm_HS p l e R s0 m args below meth c cc (x_W D cs ad A) (x_rho ad) A (x_hk ini 2) Q := by
  intro ins len pc st s a b k h hd hn H locs cells slots ls hW hS hc hs kk
  have hAn : A H.size := hA _ hS.1
  by_cases h1 : ∃ i, ins = .getfield i
  · obtain ⟨i, rfl⟩ := h1
    obtain rfl : len = 3 := by simpa [mm_okl] using hn
    exact x_get_2 (len := 3) F hK h hd hW hS hc hs kk
  by_cases h2 : ∃ i, ins = .putfield i
  · obtain ⟨i, rfl⟩ := h2
    obtain rfl : len = 3 := by simpa [mm_okl] using hn
    exact x_put_2 (len := 3) F hK hini h hd hW hS hc hs kk
  obtain ⟨hx, hb, hml, hown, hts⟩ := F
  unfold x_hk at h
  split at h
  all_goals (try exact h.elim)
  · exact absurd ⟨_, rfl⟩ h1
  · exact absurd ⟨_, rfl⟩ h2
  -- iaload
  · obtain rfl : len = 1 := by simpa [mm_okl] using hn
    split at h <;> (try exact h.elim)
    obtain ⟨t, ht, hi, h⟩ := h
    exact x_iald hx hb hK hW hS ht hi hd (kk _ _ _ _ _ _ _ _ h hW hS hc hs)
  -- iastore
  · obtain rfl : len = 1 := by simpa [mm_okl] using hn
    split at h <;> (try exact h.elim)
    rename_i v i r st'
    obtain ⟨t, ht, g1, g2, hi, h⟩ := h
    exact vx_iast hx hb hK.1 0 (hW.1 _ _ (x_eG hW.2.2 ⟨g1, g2⟩ ht)).1 rfl hi hd (fun H1 sl ha hz hq => kk _ _ _ _ _ _ _ _ h (x_setG (s0 := s0) (locs := locs) (sl := sl) (t' := (t.1, upd t.2 i.toNatClampNeg v)) hW hS ht g1 g2 ha hz hq).1 (x_setG (s0 := s0) (locs := locs) (sl := sl) (t' := (t.1, upd t.2 i.toNatClampNeg v)) hW hS ht g1 g2 ha hz hq).2 hc hs)
  -- aaload
  · obtain rfl : len = 1 := by simpa [mm_okl] using hn
    split at h <;> (try exact h.elim)
    rename_i i r st'
    obtain ⟨t, ht, hi, h⟩ := h
    refine va_aldq hx hb hK.1 (vx_P1 (hW.1 _ _ (x_eR hW.2.2 ht)).1) 0 2 rfl rfl hi hd ?_
    rw [← mE_rf]
    exact kk _ _ _ _ _ _ _ _ h hW hS hc hs
  -- aastore
  · obtain rfl : len = 1 := by simpa [mm_okl] using hn
    split at h <;> (try exact h.elim)
    rename_i v i r st'
    obtain ⟨t, ht, g1, g2, hi, g3, h⟩ := h
    have hat := (hW.1 _ _ (x_eR hW.2.2 ht)).1
    rcases v with _ | v
    · refine vx_astqN (C := RX0) hx hb hK.1 2 hat rfl hi hd (fun H1 sl ha hz hq => ?_)
      have ha' := ha
      rw [show (none : Option Nat) = (none : Option Nat).map (x_rho ad) from rfl, x_upR] at ha'
      exact kk _ _ _ _ _ _ _ _ h (x_setR (s0 := s0) (locs := locs) (sl := sl) (t' := (t.1, va_up t.2 i.toNatClampNeg none)) hW hS ht g1 g2 ha' hz hq).1 (x_setR (s0 := s0) (locs := locs) (sl := sl) (t' := (t.1, va_up t.2 i.toNatClampNeg none)) hW hS ht g1 g2 ha' hz hq).2 hc hs
    · obtain ⟨⟨ci, oi, or⟩, ho, hci⟩ := g3 v rfl
      cases hci
      refine vx_astq (r := (RX0, TX0, 9)) hx hb hK.1 2 0 hat rfl (hW.1 _ _ (x_eO (x_n0 hW.2.2 ho) ho)).1 rfl hi hd (fun H1 sl ha hz hq => ?_)
      have ha' := ha
      rw [show some (x_rho ad v) = (some v).map (x_rho ad) from rfl, x_upR] at ha'
      exact kk _ _ _ _ _ _ _ _ h (x_setR (s0 := s0) (locs := locs) (sl := sl) (t' := (t.1, va_up t.2 i.toNatClampNeg (some v))) hW hS ht g1 g2 ha' hz hq).1 (x_setR (s0 := s0) (locs := locs) (sl := sl) (t' := (t.1, va_up t.2 i.toNatClampNeg (some v))) hW hS ht g1 g2 ha' hz hq).2 hc hs
  -- arraylength
  · obtain rfl : len = 1 := by simpa [mm_okl] using hn
    split at h <;> (try exact h.elim)
    rename_i r st'
    obtain ⟨n, hl, h⟩ := h
    unfold x_len at hl
    split at hl
    · rename_i t ht
      cases hl
      exact x_alen hx hb hK hW hS ht hd (kk _ _ _ _ _ _ _ _ h hW hS hc hs)
    · obtain ⟨t, ht, hl⟩ := Option.map_eq_some_iff.mp hl
      cases hl
      exact va_alen hx hb hK.1 (vx_P1 (hW.1 _ _ (x_eR hW.2.2 ht)).1) 0 2 rfl rfl rfl hd (kk _ _ _ _ _ _ _ _ h hW hS hc hs)
  -- new
  · rename_i i
    obtain rfl : len = 3 := by simpa [mm_okl] using hn
    split at h <;> (try exact h.elim)
    rename_i ci hci
    obtain ⟨ga, gb, h⟩ := h
    have hfr := x_none (x_fresh hW)
    have h' := h (H.size + 24) (by omega) hfr.1 hfr.2.1 hfr.2.2
    replace hci : x_cl2 i = some ci := hci
    unfold x_cl2 at hci
    split at hci
    · cases hci
      refine vx_new (ci := 0) (fs := [.int 0, .int 0, .null, .null, .null, .null, .int 0, .int 0, .int 0]) (C := RX0) (T := TX0) (N := 9) (own := RX2) hx hb hts in_X0 tyX0 tyX0_ok hown (hts _ wd_90) (hts _ wd_171) (hts _ wd_55) hK.1 rfl (fun j hj => by rcases (show j = 0 ∨ j = 1 ∨ j = 2 ∨ j = 3 ∨ j = 4 ∨ j = 5 ∨ j = 6 ∨ j = 7 ∨ j = 8 by omega) with rfl | rfl | rfl | rfl | rfl | rfl | rfl | rfl | rfl <;> rfl) (by omega) (by have hb : x_nf 0 = 9 := rfl; omega) hd (fun H1 ha hz hq => ?_)
      have hX := x_X_nO (o' := (0, fun _ => 0, fun _ => none)) hW.2.2 hfr.2.1 hfr.2.2
      have he : x_e cs ad (va_up s.1 (H.size + 24) (some (0, fun _ => 0, fun _ => none)), s.2) (H.size + 24) = some (.inr (0, x_fs ad (0, fun _ => 0, fun _ => none))) := x_eO (o := (0, fun _ => 0, fun _ => none)) (x_h24 _) (va_up_self _ _ _)
      have hw := x_W_new hW he (fun j hj => x_eq_O hj) (fun j hj => va_up_ne _ _ hj) hX ha hq hAn
      have hk := kk _ _ _ _ H1 locs (cells + 1) (slots + 9) h' hw (x_grow hS hz hq) (by omega) (by have hb : x_nf 0 = 9 := rfl; omega)
      rw [List.map_cons, show mE (x_rho ad) (.inr (some (H.size + 24))) = .ref H.size from by rw [mE, x_rho_new]] at hk
      exact hk
    · cases hci
  -- newarray
  · obtain rfl : len = 2 := by simpa [mm_okl] using hn
    split at h <;> (try exact h.elim)
    rename_i n st'
    obtain ⟨gn, ga, gb, gl, h⟩ := h
    have hfr := x_none (x_fresh hW)
    have h' := h (H.size + 24) (by omega) hfr.1 hfr.2.1 hfr.2.2
    refine vx_newi hx hb (hts _ wd_83) hK.1 0 rfl gn gl (by omega) (by omega) hd (fun H1 ha hz hq => ?_)
    have hX := x_X_nG (t' := (n.toNatClampNeg, fun _ => 0)) hW.2.2 hfr.1 hfr.2.2
    have he : x_e cs ad (s.1, va_up s.2.1 (H.size + 24) (some (n.toNatClampNeg, fun _ => 0)), s.2.2) (H.size + 24) = some (.inl (cs 0, n.toNatClampNeg, .inl (fun _ => 0))) := x_eG (t := (n.toNatClampNeg, fun _ => 0)) hX (x_h24 _) (va_up_self _ _ _)
    have hw := x_W_new hW he (fun j hj => x_eq_G hj) (fun j hj => rfl) hX ha hq hAn
    have hk := kk _ _ _ _ H1 locs (cells + 1) (slots + n.toNatClampNeg) h' hw (x_grow hS hz hq) (by omega) (by omega)
    rw [List.map_cons, show mE (x_rho ad) (.inr (some (H.size + 24))) = .ref H.size from by rw [mE, x_rho_new]] at hk
    exact hk
  -- anewarray
  · rename_i i
    split at h <;> (try exact h.elim)
    rename_i n st'
    split at h <;> (try exact h.elim)
    rename_i hci
    obtain ⟨gn, ga, gb, gl, h⟩ := h
    have hfr := x_none (x_fresh hW)
    have h' := h (H.size + 24) (by omega) hfr.1 hfr.2.1 hfr.2.2
    obtain rfl : len = 3 := by simpa [mm_okl] using hn
    have hlk : (Cond.classLink RX2 i RX0).before args s0 = true := by
      replace hci : x_cl2 i = some 0 := hci
      unfold x_cl2 at hci
      split at hci
      · exact hts _ wd_90
      · cases hci
    refine vx_newq hx hb hown hlk hK.2.2.1 hK.1 2 rfl gn gl (by omega) (by omega) hd (fun H1 ha hz hq => ?_)
    have hX := x_X_nR (t' := (n.toNatClampNeg, fun _ => none)) hW.2.2 hfr.1 hfr.2.1
    have he : x_e cs ad (s.1, s.2.1, va_up s.2.2 (H.size + 24) (some (n.toNatClampNeg, fun _ => none))) (H.size + 24) = some (.inl (cs 2, n.toNatClampNeg, .inr (.inr (.inr (.inr (fun j => ((fun _ => none : Nat → Option Nat) j).map (x_rho ad))))))) := x_eR (t := (n.toNatClampNeg, fun _ => none)) hX (va_up_self _ _ _)
    have hw := x_W_new hW he (fun j hj => x_eq_R hj) (fun j hj => rfl) hX ha hq hAn
    have hk := kk _ _ _ _ H1 locs (cells + 1) (slots + n.toNatClampNeg) h' hw (x_grow hS hz hq) (by omega) (by omega)
    rw [List.map_cons, show mE (x_rho ad) (.inr (some (H.size + 24))) = .ref H.size from by rw [mE, x_rho_new]] at hk
    exact hk
set_option maxHeartbeats 8000000 in
set_option maxRecDepth 20000 in
theorem x_HS_3 {ini : Bool} (hini : ini = true → meth.name = "<init>") (F : CallFix p m c cc nL s0 args tb RX3) (hK : kk D cs (fun i => ad (22 + i)) A s0) (hA : ∀ q : Nat, s0.heap.size ≤ q → A q) : mm_HS p l e R s0 m args below meth c cc (x_W D cs ad A) (x_rho ad) A (x_hk ini 3) Q := by
  intro ins len pc st s a b k h hd hn H locs cells slots ls hW hS hc hs kk
  have hAn : A H.size := hA _ hS.1
  by_cases h1 : ∃ i, ins = .getfield i
  · obtain ⟨i, rfl⟩ := h1
    obtain rfl : len = 3 := by simpa [mm_okl] using hn
    exact x_get_3 (len := 3) F hK h hd hW hS hc hs kk
  by_cases h2 : ∃ i, ins = .putfield i
  · obtain ⟨i, rfl⟩ := h2
    obtain rfl : len = 3 := by simpa [mm_okl] using hn
    exact x_put_3 (len := 3) F hK hini h hd hW hS hc hs kk
  obtain ⟨hx, hb, hml, hown, hts⟩ := F
  unfold x_hk at h
  split at h
  all_goals (try exact h.elim)
  · exact absurd ⟨_, rfl⟩ h1
  · exact absurd ⟨_, rfl⟩ h2
  -- iaload
  · obtain rfl : len = 1 := by simpa [mm_okl] using hn
    split at h <;> (try exact h.elim)
    obtain ⟨t, ht, hi, h⟩ := h
    exact x_iald hx hb hK hW hS ht hi hd (kk _ _ _ _ _ _ _ _ h hW hS hc hs)
  -- iastore
  · obtain rfl : len = 1 := by simpa [mm_okl] using hn
    split at h <;> (try exact h.elim)
    rename_i v i r st'
    obtain ⟨t, ht, g1, g2, hi, h⟩ := h
    exact vx_iast hx hb hK.1 0 (hW.1 _ _ (x_eG hW.2.2 ⟨g1, g2⟩ ht)).1 rfl hi hd (fun H1 sl ha hz hq => kk _ _ _ _ _ _ _ _ h (x_setG (s0 := s0) (locs := locs) (sl := sl) (t' := (t.1, upd t.2 i.toNatClampNeg v)) hW hS ht g1 g2 ha hz hq).1 (x_setG (s0 := s0) (locs := locs) (sl := sl) (t' := (t.1, upd t.2 i.toNatClampNeg v)) hW hS ht g1 g2 ha hz hq).2 hc hs)
  -- aaload
  · obtain rfl : len = 1 := by simpa [mm_okl] using hn
    split at h <;> (try exact h.elim)
    rename_i i r st'
    obtain ⟨t, ht, hi, h⟩ := h
    refine va_aldq hx hb hK.1 (vx_P1 (hW.1 _ _ (x_eR hW.2.2 ht)).1) 0 2 rfl rfl hi hd ?_
    rw [← mE_rf]
    exact kk _ _ _ _ _ _ _ _ h hW hS hc hs
  -- aastore
  · obtain rfl : len = 1 := by simpa [mm_okl] using hn
    split at h <;> (try exact h.elim)
    rename_i v i r st'
    obtain ⟨t, ht, g1, g2, hi, g3, h⟩ := h
    have hat := (hW.1 _ _ (x_eR hW.2.2 ht)).1
    rcases v with _ | v
    · refine vx_astqN (C := RX0) hx hb hK.1 2 hat rfl hi hd (fun H1 sl ha hz hq => ?_)
      have ha' := ha
      rw [show (none : Option Nat) = (none : Option Nat).map (x_rho ad) from rfl, x_upR] at ha'
      exact kk _ _ _ _ _ _ _ _ h (x_setR (s0 := s0) (locs := locs) (sl := sl) (t' := (t.1, va_up t.2 i.toNatClampNeg none)) hW hS ht g1 g2 ha' hz hq).1 (x_setR (s0 := s0) (locs := locs) (sl := sl) (t' := (t.1, va_up t.2 i.toNatClampNeg none)) hW hS ht g1 g2 ha' hz hq).2 hc hs
    · obtain ⟨⟨ci, oi, or⟩, ho, hci⟩ := g3 v rfl
      cases hci
      refine vx_astq (r := (RX0, TX0, 9)) hx hb hK.1 2 0 hat rfl (hW.1 _ _ (x_eO (x_n0 hW.2.2 ho) ho)).1 rfl hi hd (fun H1 sl ha hz hq => ?_)
      have ha' := ha
      rw [show some (x_rho ad v) = (some v).map (x_rho ad) from rfl, x_upR] at ha'
      exact kk _ _ _ _ _ _ _ _ h (x_setR (s0 := s0) (locs := locs) (sl := sl) (t' := (t.1, va_up t.2 i.toNatClampNeg (some v))) hW hS ht g1 g2 ha' hz hq).1 (x_setR (s0 := s0) (locs := locs) (sl := sl) (t' := (t.1, va_up t.2 i.toNatClampNeg (some v))) hW hS ht g1 g2 ha' hz hq).2 hc hs
  -- arraylength
  · obtain rfl : len = 1 := by simpa [mm_okl] using hn
    split at h <;> (try exact h.elim)
    rename_i r st'
    obtain ⟨n, hl, h⟩ := h
    unfold x_len at hl
    split at hl
    · rename_i t ht
      cases hl
      exact x_alen hx hb hK hW hS ht hd (kk _ _ _ _ _ _ _ _ h hW hS hc hs)
    · obtain ⟨t, ht, hl⟩ := Option.map_eq_some_iff.mp hl
      cases hl
      exact va_alen hx hb hK.1 (vx_P1 (hW.1 _ _ (x_eR hW.2.2 ht)).1) 0 2 rfl rfl rfl hd (kk _ _ _ _ _ _ _ _ h hW hS hc hs)
  -- newarray
  · obtain rfl : len = 2 := by simpa [mm_okl] using hn
    split at h <;> (try exact h.elim)
    rename_i n st'
    obtain ⟨gn, ga, gb, gl, h⟩ := h
    have hfr := x_none (x_fresh hW)
    have h' := h (H.size + 24) (by omega) hfr.1 hfr.2.1 hfr.2.2
    refine vx_newi hx hb (hts _ wd_83) hK.1 0 rfl gn gl (by omega) (by omega) hd (fun H1 ha hz hq => ?_)
    have hX := x_X_nG (t' := (n.toNatClampNeg, fun _ => 0)) hW.2.2 hfr.1 hfr.2.2
    have he : x_e cs ad (s.1, va_up s.2.1 (H.size + 24) (some (n.toNatClampNeg, fun _ => 0)), s.2.2) (H.size + 24) = some (.inl (cs 0, n.toNatClampNeg, .inl (fun _ => 0))) := x_eG (t := (n.toNatClampNeg, fun _ => 0)) hX (x_h24 _) (va_up_self _ _ _)
    have hw := x_W_new hW he (fun j hj => x_eq_G hj) (fun j hj => rfl) hX ha hq hAn
    have hk := kk _ _ _ _ H1 locs (cells + 1) (slots + n.toNatClampNeg) h' hw (x_grow hS hz hq) (by omega) (by omega)
    rw [List.map_cons, show mE (x_rho ad) (.inr (some (H.size + 24))) = .ref H.size from by rw [mE, x_rho_new]] at hk
    exact hk
  · split at h <;> exact h.elim
set_option maxHeartbeats 8000000 in
set_option maxRecDepth 20000 in
theorem x_HS_4 {ini : Bool} (hini : ini = true → meth.name = "<init>") (F : CallFix p m c cc nL s0 args tb RX4) (hK : kk D cs (fun i => ad (22 + i)) A s0) (hA : ∀ q : Nat, s0.heap.size ≤ q → A q) : mm_HS p l e R s0 m args below meth c cc (x_W D cs ad A) (x_rho ad) A (x_hk ini 4) Q := by
  intro ins len pc st s a b k h hd hn H locs cells slots ls hW hS hc hs kk
  have hAn : A H.size := hA _ hS.1
  by_cases h1 : ∃ i, ins = .getfield i
  · obtain ⟨i, rfl⟩ := h1
    obtain rfl : len = 3 := by simpa [mm_okl] using hn
    exact x_get_4 (len := 3) F hK h hd hW hS hc hs kk
  by_cases h2 : ∃ i, ins = .putfield i
  · obtain ⟨i, rfl⟩ := h2
    obtain rfl : len = 3 := by simpa [mm_okl] using hn
    exact x_put_4 (len := 3) F hK hini h hd hW hS hc hs kk
  obtain ⟨hx, hb, hml, hown, hts⟩ := F
  unfold x_hk at h
  split at h
  all_goals (try exact h.elim)
  · exact absurd ⟨_, rfl⟩ h1
  · exact absurd ⟨_, rfl⟩ h2
  -- iaload
  · obtain rfl : len = 1 := by simpa [mm_okl] using hn
    split at h <;> (try exact h.elim)
    obtain ⟨t, ht, hi, h⟩ := h
    exact x_iald hx hb hK hW hS ht hi hd (kk _ _ _ _ _ _ _ _ h hW hS hc hs)
  -- iastore
  · obtain rfl : len = 1 := by simpa [mm_okl] using hn
    split at h <;> (try exact h.elim)
    rename_i v i r st'
    obtain ⟨t, ht, g1, g2, hi, h⟩ := h
    exact vx_iast hx hb hK.1 0 (hW.1 _ _ (x_eG hW.2.2 ⟨g1, g2⟩ ht)).1 rfl hi hd (fun H1 sl ha hz hq => kk _ _ _ _ _ _ _ _ h (x_setG (s0 := s0) (locs := locs) (sl := sl) (t' := (t.1, upd t.2 i.toNatClampNeg v)) hW hS ht g1 g2 ha hz hq).1 (x_setG (s0 := s0) (locs := locs) (sl := sl) (t' := (t.1, upd t.2 i.toNatClampNeg v)) hW hS ht g1 g2 ha hz hq).2 hc hs)
  -- aaload
  · obtain rfl : len = 1 := by simpa [mm_okl] using hn
    split at h <;> (try exact h.elim)
    rename_i i r st'
    obtain ⟨t, ht, hi, h⟩ := h
    refine va_aldq hx hb hK.1 (vx_P1 (hW.1 _ _ (x_eR hW.2.2 ht)).1) 0 2 rfl rfl hi hd ?_
    rw [← mE_rf]
    exact kk _ _ _ _ _ _ _ _ h hW hS hc hs
  -- aastore
  · obtain rfl : len = 1 := by simpa [mm_okl] using hn
    split at h <;> (try exact h.elim)
    rename_i v i r st'
    obtain ⟨t, ht, g1, g2, hi, g3, h⟩ := h
    have hat := (hW.1 _ _ (x_eR hW.2.2 ht)).1
    rcases v with _ | v
    · refine vx_astqN (C := RX0) hx hb hK.1 2 hat rfl hi hd (fun H1 sl ha hz hq => ?_)
      have ha' := ha
      rw [show (none : Option Nat) = (none : Option Nat).map (x_rho ad) from rfl, x_upR] at ha'
      exact kk _ _ _ _ _ _ _ _ h (x_setR (s0 := s0) (locs := locs) (sl := sl) (t' := (t.1, va_up t.2 i.toNatClampNeg none)) hW hS ht g1 g2 ha' hz hq).1 (x_setR (s0 := s0) (locs := locs) (sl := sl) (t' := (t.1, va_up t.2 i.toNatClampNeg none)) hW hS ht g1 g2 ha' hz hq).2 hc hs
    · obtain ⟨⟨ci, oi, or⟩, ho, hci⟩ := g3 v rfl
      cases hci
      refine vx_astq (r := (RX0, TX0, 9)) hx hb hK.1 2 0 hat rfl (hW.1 _ _ (x_eO (x_n0 hW.2.2 ho) ho)).1 rfl hi hd (fun H1 sl ha hz hq => ?_)
      have ha' := ha
      rw [show some (x_rho ad v) = (some v).map (x_rho ad) from rfl, x_upR] at ha'
      exact kk _ _ _ _ _ _ _ _ h (x_setR (s0 := s0) (locs := locs) (sl := sl) (t' := (t.1, va_up t.2 i.toNatClampNeg (some v))) hW hS ht g1 g2 ha' hz hq).1 (x_setR (s0 := s0) (locs := locs) (sl := sl) (t' := (t.1, va_up t.2 i.toNatClampNeg (some v))) hW hS ht g1 g2 ha' hz hq).2 hc hs
  -- arraylength
  · obtain rfl : len = 1 := by simpa [mm_okl] using hn
    split at h <;> (try exact h.elim)
    rename_i r st'
    obtain ⟨n, hl, h⟩ := h
    unfold x_len at hl
    split at hl
    · rename_i t ht
      cases hl
      exact x_alen hx hb hK hW hS ht hd (kk _ _ _ _ _ _ _ _ h hW hS hc hs)
    · obtain ⟨t, ht, hl⟩ := Option.map_eq_some_iff.mp hl
      cases hl
      exact va_alen hx hb hK.1 (vx_P1 (hW.1 _ _ (x_eR hW.2.2 ht)).1) 0 2 rfl rfl rfl hd (kk _ _ _ _ _ _ _ _ h hW hS hc hs)
  -- newarray
  · obtain rfl : len = 2 := by simpa [mm_okl] using hn
    split at h <;> (try exact h.elim)
    rename_i n st'
    obtain ⟨gn, ga, gb, gl, h⟩ := h
    have hfr := x_none (x_fresh hW)
    have h' := h (H.size + 24) (by omega) hfr.1 hfr.2.1 hfr.2.2
    refine vx_newi hx hb (hts _ wd_83) hK.1 0 rfl gn gl (by omega) (by omega) hd (fun H1 ha hz hq => ?_)
    have hX := x_X_nG (t' := (n.toNatClampNeg, fun _ => 0)) hW.2.2 hfr.1 hfr.2.2
    have he : x_e cs ad (s.1, va_up s.2.1 (H.size + 24) (some (n.toNatClampNeg, fun _ => 0)), s.2.2) (H.size + 24) = some (.inl (cs 0, n.toNatClampNeg, .inl (fun _ => 0))) := x_eG (t := (n.toNatClampNeg, fun _ => 0)) hX (x_h24 _) (va_up_self _ _ _)
    have hw := x_W_new hW he (fun j hj => x_eq_G hj) (fun j hj => rfl) hX ha hq hAn
    have hk := kk _ _ _ _ H1 locs (cells + 1) (slots + n.toNatClampNeg) h' hw (x_grow hS hz hq) (by omega) (by omega)
    rw [List.map_cons, show mE (x_rho ad) (.inr (some (H.size + 24))) = .ref H.size from by rw [mE, x_rho_new]] at hk
    exact hk
  · split at h <;> exact h.elim
set_option maxHeartbeats 8000000 in
set_option maxRecDepth 20000 in
theorem x_HS_5 {ini : Bool} (hini : ini = true → meth.name = "<init>") (F : CallFix p m c cc nL s0 args tb RX5) (hK : kk D cs (fun i => ad (22 + i)) A s0) (hA : ∀ q : Nat, s0.heap.size ≤ q → A q) : mm_HS p l e R s0 m args below meth c cc (x_W D cs ad A) (x_rho ad) A (x_hk ini 5) Q := by
  intro ins len pc st s a b k h hd hn H locs cells slots ls hW hS hc hs kk
  have hAn : A H.size := hA _ hS.1
  by_cases h1 : ∃ i, ins = .getfield i
  · obtain ⟨i, rfl⟩ := h1
    obtain rfl : len = 3 := by simpa [mm_okl] using hn
    exact x_get_5 (len := 3) F hK h hd hW hS hc hs kk
  by_cases h2 : ∃ i, ins = .putfield i
  · obtain ⟨i, rfl⟩ := h2
    obtain rfl : len = 3 := by simpa [mm_okl] using hn
    exact x_put_5 (len := 3) F hK hini h hd hW hS hc hs kk
  obtain ⟨hx, hb, hml, hown, hts⟩ := F
  unfold x_hk at h
  split at h
  all_goals (try exact h.elim)
  · exact absurd ⟨_, rfl⟩ h1
  · exact absurd ⟨_, rfl⟩ h2
  -- iaload
  · obtain rfl : len = 1 := by simpa [mm_okl] using hn
    split at h <;> (try exact h.elim)
    obtain ⟨t, ht, hi, h⟩ := h
    exact x_iald hx hb hK hW hS ht hi hd (kk _ _ _ _ _ _ _ _ h hW hS hc hs)
  -- iastore
  · obtain rfl : len = 1 := by simpa [mm_okl] using hn
    split at h <;> (try exact h.elim)
    rename_i v i r st'
    obtain ⟨t, ht, g1, g2, hi, h⟩ := h
    exact vx_iast hx hb hK.1 0 (hW.1 _ _ (x_eG hW.2.2 ⟨g1, g2⟩ ht)).1 rfl hi hd (fun H1 sl ha hz hq => kk _ _ _ _ _ _ _ _ h (x_setG (s0 := s0) (locs := locs) (sl := sl) (t' := (t.1, upd t.2 i.toNatClampNeg v)) hW hS ht g1 g2 ha hz hq).1 (x_setG (s0 := s0) (locs := locs) (sl := sl) (t' := (t.1, upd t.2 i.toNatClampNeg v)) hW hS ht g1 g2 ha hz hq).2 hc hs)
  -- aaload
  · obtain rfl : len = 1 := by simpa [mm_okl] using hn
    split at h <;> (try exact h.elim)
    rename_i i r st'
    obtain ⟨t, ht, hi, h⟩ := h
    refine va_aldq hx hb hK.1 (vx_P1 (hW.1 _ _ (x_eR hW.2.2 ht)).1) 0 2 rfl rfl hi hd ?_
    rw [← mE_rf]
    exact kk _ _ _ _ _ _ _ _ h hW hS hc hs
  -- aastore
  · obtain rfl : len = 1 := by simpa [mm_okl] using hn
    split at h <;> (try exact h.elim)
    rename_i v i r st'
    obtain ⟨t, ht, g1, g2, hi, g3, h⟩ := h
    have hat := (hW.1 _ _ (x_eR hW.2.2 ht)).1
    rcases v with _ | v
    · refine vx_astqN (C := RX0) hx hb hK.1 2 hat rfl hi hd (fun H1 sl ha hz hq => ?_)
      have ha' := ha
      rw [show (none : Option Nat) = (none : Option Nat).map (x_rho ad) from rfl, x_upR] at ha'
      exact kk _ _ _ _ _ _ _ _ h (x_setR (s0 := s0) (locs := locs) (sl := sl) (t' := (t.1, va_up t.2 i.toNatClampNeg none)) hW hS ht g1 g2 ha' hz hq).1 (x_setR (s0 := s0) (locs := locs) (sl := sl) (t' := (t.1, va_up t.2 i.toNatClampNeg none)) hW hS ht g1 g2 ha' hz hq).2 hc hs
    · obtain ⟨⟨ci, oi, or⟩, ho, hci⟩ := g3 v rfl
      cases hci
      refine vx_astq (r := (RX0, TX0, 9)) hx hb hK.1 2 0 hat rfl (hW.1 _ _ (x_eO (x_n0 hW.2.2 ho) ho)).1 rfl hi hd (fun H1 sl ha hz hq => ?_)
      have ha' := ha
      rw [show some (x_rho ad v) = (some v).map (x_rho ad) from rfl, x_upR] at ha'
      exact kk _ _ _ _ _ _ _ _ h (x_setR (s0 := s0) (locs := locs) (sl := sl) (t' := (t.1, va_up t.2 i.toNatClampNeg (some v))) hW hS ht g1 g2 ha' hz hq).1 (x_setR (s0 := s0) (locs := locs) (sl := sl) (t' := (t.1, va_up t.2 i.toNatClampNeg (some v))) hW hS ht g1 g2 ha' hz hq).2 hc hs
  -- arraylength
  · obtain rfl : len = 1 := by simpa [mm_okl] using hn
    split at h <;> (try exact h.elim)
    rename_i r st'
    obtain ⟨n, hl, h⟩ := h
    unfold x_len at hl
    split at hl
    · rename_i t ht
      cases hl
      exact x_alen hx hb hK hW hS ht hd (kk _ _ _ _ _ _ _ _ h hW hS hc hs)
    · obtain ⟨t, ht, hl⟩ := Option.map_eq_some_iff.mp hl
      cases hl
      exact va_alen hx hb hK.1 (vx_P1 (hW.1 _ _ (x_eR hW.2.2 ht)).1) 0 2 rfl rfl rfl hd (kk _ _ _ _ _ _ _ _ h hW hS hc hs)
  -- new
  · rename_i i
    obtain rfl : len = 3 := by simpa [mm_okl] using hn
    split at h <;> (try exact h.elim)
    rename_i ci hci
    obtain ⟨ga, gb, h⟩ := h
    have hfr := x_none (x_fresh hW)
    have h' := h (H.size + 24) (by omega) hfr.1 hfr.2.1 hfr.2.2
    replace hci : x_cl5 i = some ci := hci
    unfold x_cl5 at hci
    split at hci
    · cases hci
      refine vx_new (ci := 1) (fs := [.null, .int 0]) (C := RX1) (T := TX1) (N := 2) (own := RX5) hx hb hts in_X1 tyX1 tyX1_ok hown (hts _ wd_128) (hts _ wd_107) (hts _ wd_52) hK.1 rfl (fun j hj => by rcases (show j = 0 ∨ j = 1 by omega) with rfl | rfl <;> rfl) (by omega) (by have hb : x_nf 1 = 2 := rfl; omega) hd (fun H1 ha hz hq => ?_)
      have hX := x_X_nO (o' := (1, fun _ => 0, fun _ => none)) hW.2.2 hfr.2.1 hfr.2.2
      have he : x_e cs ad (va_up s.1 (H.size + 24) (some (1, fun _ => 0, fun _ => none)), s.2) (H.size + 24) = some (.inr (1, x_fs ad (1, fun _ => 0, fun _ => none))) := x_eO (o := (1, fun _ => 0, fun _ => none)) (x_h24 _) (va_up_self _ _ _)
      have hw := x_W_new hW he (fun j hj => x_eq_O hj) (fun j hj => va_up_ne _ _ hj) hX ha hq hAn
      have hk := kk _ _ _ _ H1 locs (cells + 1) (slots + 2) h' hw (x_grow hS hz hq) (by omega) (by have hb : x_nf 1 = 2 := rfl; omega)
      rw [List.map_cons, show mE (x_rho ad) (.inr (some (H.size + 24))) = .ref H.size from by rw [mE, x_rho_new]] at hk
      exact hk
    · cases hci
      refine vx_new (ci := 3) (fs := [.null, .int 0]) (C := RX3) (T := TX3) (N := 2) (own := RX5) hx hb hts in_X3 tyX3 tyX3_ok hown (hts _ wd_130) (hts _ wd_69) (hts _ wd_50) hK.1 rfl (fun j hj => by rcases (show j = 0 ∨ j = 1 by omega) with rfl | rfl <;> rfl) (by omega) (by have hb : x_nf 3 = 2 := rfl; omega) hd (fun H1 ha hz hq => ?_)
      have hX := x_X_nO (o' := (3, fun _ => 0, fun _ => none)) hW.2.2 hfr.2.1 hfr.2.2
      have he : x_e cs ad (va_up s.1 (H.size + 24) (some (3, fun _ => 0, fun _ => none)), s.2) (H.size + 24) = some (.inr (3, x_fs ad (3, fun _ => 0, fun _ => none))) := x_eO (o := (3, fun _ => 0, fun _ => none)) (x_h24 _) (va_up_self _ _ _)
      have hw := x_W_new hW he (fun j hj => x_eq_O hj) (fun j hj => va_up_ne _ _ hj) hX ha hq hAn
      have hk := kk _ _ _ _ H1 locs (cells + 1) (slots + 2) h' hw (x_grow hS hz hq) (by omega) (by have hb : x_nf 3 = 2 := rfl; omega)
      rw [List.map_cons, show mE (x_rho ad) (.inr (some (H.size + 24))) = .ref H.size from by rw [mE, x_rho_new]] at hk
      exact hk
    · cases hci
      refine vx_new (ci := 0) (fs := [.int 0, .int 0, .null, .null, .null, .null, .int 0, .int 0, .int 0]) (C := RX0) (T := TX0) (N := 9) (own := RX5) hx hb hts in_X0 tyX0 tyX0_ok hown (hts _ wd_362) (hts _ wd_171) (hts _ wd_55) hK.1 rfl (fun j hj => by rcases (show j = 0 ∨ j = 1 ∨ j = 2 ∨ j = 3 ∨ j = 4 ∨ j = 5 ∨ j = 6 ∨ j = 7 ∨ j = 8 by omega) with rfl | rfl | rfl | rfl | rfl | rfl | rfl | rfl | rfl <;> rfl) (by omega) (by have hb : x_nf 0 = 9 := rfl; omega) hd (fun H1 ha hz hq => ?_)
      have hX := x_X_nO (o' := (0, fun _ => 0, fun _ => none)) hW.2.2 hfr.2.1 hfr.2.2
      have he : x_e cs ad (va_up s.1 (H.size + 24) (some (0, fun _ => 0, fun _ => none)), s.2) (H.size + 24) = some (.inr (0, x_fs ad (0, fun _ => 0, fun _ => none))) := x_eO (o := (0, fun _ => 0, fun _ => none)) (x_h24 _) (va_up_self _ _ _)
      have hw := x_W_new hW he (fun j hj => x_eq_O hj) (fun j hj => va_up_ne _ _ hj) hX ha hq hAn
      have hk := kk _ _ _ _ H1 locs (cells + 1) (slots + 9) h' hw (x_grow hS hz hq) (by omega) (by have hb : x_nf 0 = 9 := rfl; omega)
      rw [List.map_cons, show mE (x_rho ad) (.inr (some (H.size + 24))) = .ref H.size from by rw [mE, x_rho_new]] at hk
      exact hk
    · cases hci
  -- newarray
  · obtain rfl : len = 2 := by simpa [mm_okl] using hn
    split at h <;> (try exact h.elim)
    rename_i n st'
    obtain ⟨gn, ga, gb, gl, h⟩ := h
    have hfr := x_none (x_fresh hW)
    have h' := h (H.size + 24) (by omega) hfr.1 hfr.2.1 hfr.2.2
    refine vx_newi hx hb (hts _ wd_83) hK.1 0 rfl gn gl (by omega) (by omega) hd (fun H1 ha hz hq => ?_)
    have hX := x_X_nG (t' := (n.toNatClampNeg, fun _ => 0)) hW.2.2 hfr.1 hfr.2.2
    have he : x_e cs ad (s.1, va_up s.2.1 (H.size + 24) (some (n.toNatClampNeg, fun _ => 0)), s.2.2) (H.size + 24) = some (.inl (cs 0, n.toNatClampNeg, .inl (fun _ => 0))) := x_eG (t := (n.toNatClampNeg, fun _ => 0)) hX (x_h24 _) (va_up_self _ _ _)
    have hw := x_W_new hW he (fun j hj => x_eq_G hj) (fun j hj => rfl) hX ha hq hAn
    have hk := kk _ _ _ _ H1 locs (cells + 1) (slots + n.toNatClampNeg) h' hw (x_grow hS hz hq) (by omega) (by omega)
    rw [List.map_cons, show mE (x_rho ad) (.inr (some (H.size + 24))) = .ref H.size from by rw [mE, x_rho_new]] at hk
    exact hk
  -- anewarray
  · rename_i i
    split at h <;> (try exact h.elim)
    rename_i n st'
    split at h <;> (try exact h.elim)
    rename_i hci
    obtain ⟨gn, ga, gb, gl, h⟩ := h
    have hfr := x_none (x_fresh hW)
    have h' := h (H.size + 24) (by omega) hfr.1 hfr.2.1 hfr.2.2
    obtain rfl : len = 3 := by simpa [mm_okl] using hn
    have hlk : (Cond.classLink RX5 i RX0).before args s0 = true := by
      replace hci : x_cl5 i = some 0 := hci
      unfold x_cl5 at hci
      split at hci
      · cases hci
      · cases hci
      · exact hts _ wd_362
      · cases hci
    refine vx_newq hx hb hown hlk hK.2.2.1 hK.1 2 rfl gn gl (by omega) (by omega) hd (fun H1 ha hz hq => ?_)
    have hX := x_X_nR (t' := (n.toNatClampNeg, fun _ => none)) hW.2.2 hfr.1 hfr.2.1
    have he : x_e cs ad (s.1, s.2.1, va_up s.2.2 (H.size + 24) (some (n.toNatClampNeg, fun _ => none))) (H.size + 24) = some (.inl (cs 2, n.toNatClampNeg, .inr (.inr (.inr (.inr (fun j => ((fun _ => none : Nat → Option Nat) j).map (x_rho ad))))))) := x_eR (t := (n.toNatClampNeg, fun _ => none)) hX (va_up_self _ _ _)
    have hw := x_W_new hW he (fun j hj => x_eq_R hj) (fun j hj => rfl) hX ha hq hAn
    have hk := kk _ _ _ _ H1 locs (cells + 1) (slots + n.toNatClampNeg) h' hw (x_grow hS hz hq) (by omega) (by omega)
    rw [List.map_cons, show mE (x_rho ad) (.inr (some (H.size + 24))) = .ref H.size from by rw [mE, x_rho_new]] at hk
    exact hk
set_option maxHeartbeats 8000000 in
set_option maxRecDepth 20000 in
theorem x_HS_6 {ini : Bool} (hini : ini = true → meth.name = "<init>") (F : CallFix p m c cc nL s0 args tb RX6) (hK : kk D cs (fun i => ad (22 + i)) A s0) (hA : ∀ q : Nat, s0.heap.size ≤ q → A q) : mm_HS p l e R s0 m args below meth c cc (x_W D cs ad A) (x_rho ad) A (x_hk ini 6) Q := by
  intro ins len pc st s a b k h hd hn H locs cells slots ls hW hS hc hs kk
  have hAn : A H.size := hA _ hS.1
  by_cases h1 : ∃ i, ins = .getfield i
  · obtain ⟨i, rfl⟩ := h1
    obtain rfl : len = 3 := by simpa [mm_okl] using hn
    exact x_get_6 (len := 3) F hK h hd hW hS hc hs kk
  by_cases h2 : ∃ i, ins = .putfield i
  · obtain ⟨i, rfl⟩ := h2
    obtain rfl : len = 3 := by simpa [mm_okl] using hn
    exact x_put_6 (len := 3) F hK hini h hd hW hS hc hs kk
  obtain ⟨hx, hb, hml, hown, hts⟩ := F
  unfold x_hk at h
  split at h
  all_goals (try exact h.elim)
  · exact absurd ⟨_, rfl⟩ h1
  · exact absurd ⟨_, rfl⟩ h2
  -- iaload
  · obtain rfl : len = 1 := by simpa [mm_okl] using hn
    split at h <;> (try exact h.elim)
    obtain ⟨t, ht, hi, h⟩ := h
    exact x_iald hx hb hK hW hS ht hi hd (kk _ _ _ _ _ _ _ _ h hW hS hc hs)
  -- iastore
  · obtain rfl : len = 1 := by simpa [mm_okl] using hn
    split at h <;> (try exact h.elim)
    rename_i v i r st'
    obtain ⟨t, ht, g1, g2, hi, h⟩ := h
    exact vx_iast hx hb hK.1 0 (hW.1 _ _ (x_eG hW.2.2 ⟨g1, g2⟩ ht)).1 rfl hi hd (fun H1 sl ha hz hq => kk _ _ _ _ _ _ _ _ h (x_setG (s0 := s0) (locs := locs) (sl := sl) (t' := (t.1, upd t.2 i.toNatClampNeg v)) hW hS ht g1 g2 ha hz hq).1 (x_setG (s0 := s0) (locs := locs) (sl := sl) (t' := (t.1, upd t.2 i.toNatClampNeg v)) hW hS ht g1 g2 ha hz hq).2 hc hs)
  -- aaload
  · obtain rfl : len = 1 := by simpa [mm_okl] using hn
    split at h <;> (try exact h.elim)
    rename_i i r st'
    obtain ⟨t, ht, hi, h⟩ := h
    refine va_aldq hx hb hK.1 (vx_P1 (hW.1 _ _ (x_eR hW.2.2 ht)).1) 0 2 rfl rfl hi hd ?_
    rw [← mE_rf]
    exact kk _ _ _ _ _ _ _ _ h hW hS hc hs
  -- aastore
  · obtain rfl : len = 1 := by simpa [mm_okl] using hn
    split at h <;> (try exact h.elim)
    rename_i v i r st'
    obtain ⟨t, ht, g1, g2, hi, g3, h⟩ := h
    have hat := (hW.1 _ _ (x_eR hW.2.2 ht)).1
    rcases v with _ | v
    · refine vx_astqN (C := RX0) hx hb hK.1 2 hat rfl hi hd (fun H1 sl ha hz hq => ?_)
      have ha' := ha
      rw [show (none : Option Nat) = (none : Option Nat).map (x_rho ad) from rfl, x_upR] at ha'
      exact kk _ _ _ _ _ _ _ _ h (x_setR (s0 := s0) (locs := locs) (sl := sl) (t' := (t.1, va_up t.2 i.toNatClampNeg none)) hW hS ht g1 g2 ha' hz hq).1 (x_setR (s0 := s0) (locs := locs) (sl := sl) (t' := (t.1, va_up t.2 i.toNatClampNeg none)) hW hS ht g1 g2 ha' hz hq).2 hc hs
    · obtain ⟨⟨ci, oi, or⟩, ho, hci⟩ := g3 v rfl
      cases hci
      refine vx_astq (r := (RX0, TX0, 9)) hx hb hK.1 2 0 hat rfl (hW.1 _ _ (x_eO (x_n0 hW.2.2 ho) ho)).1 rfl hi hd (fun H1 sl ha hz hq => ?_)
      have ha' := ha
      rw [show some (x_rho ad v) = (some v).map (x_rho ad) from rfl, x_upR] at ha'
      exact kk _ _ _ _ _ _ _ _ h (x_setR (s0 := s0) (locs := locs) (sl := sl) (t' := (t.1, va_up t.2 i.toNatClampNeg (some v))) hW hS ht g1 g2 ha' hz hq).1 (x_setR (s0 := s0) (locs := locs) (sl := sl) (t' := (t.1, va_up t.2 i.toNatClampNeg (some v))) hW hS ht g1 g2 ha' hz hq).2 hc hs
  -- arraylength
  · obtain rfl : len = 1 := by simpa [mm_okl] using hn
    split at h <;> (try exact h.elim)
    rename_i r st'
    obtain ⟨n, hl, h⟩ := h
    unfold x_len at hl
    split at hl
    · rename_i t ht
      cases hl
      exact x_alen hx hb hK hW hS ht hd (kk _ _ _ _ _ _ _ _ h hW hS hc hs)
    · obtain ⟨t, ht, hl⟩ := Option.map_eq_some_iff.mp hl
      cases hl
      exact va_alen hx hb hK.1 (vx_P1 (hW.1 _ _ (x_eR hW.2.2 ht)).1) 0 2 rfl rfl rfl hd (kk _ _ _ _ _ _ _ _ h hW hS hc hs)
  -- new
  · rename_i i
    obtain rfl : len = 3 := by simpa [mm_okl] using hn
    split at h <;> (try exact h.elim)
    rename_i ci hci
    obtain ⟨ga, gb, h⟩ := h
    have hfr := x_none (x_fresh hW)
    have h' := h (H.size + 24) (by omega) hfr.1 hfr.2.1 hfr.2.2
    replace hci : x_cl6 i = some ci := hci
    unfold x_cl6 at hci
    split at hci
    · cases hci
      refine vx_new (ci := 0) (fs := [.int 0, .int 0, .null, .null, .null, .null, .int 0, .int 0, .int 0]) (C := RX0) (T := TX0) (N := 9) (own := RX6) hx hb hts in_X0 tyX0 tyX0_ok hown (hts _ wd_66) (hts _ wd_171) (hts _ wd_55) hK.1 rfl (fun j hj => by rcases (show j = 0 ∨ j = 1 ∨ j = 2 ∨ j = 3 ∨ j = 4 ∨ j = 5 ∨ j = 6 ∨ j = 7 ∨ j = 8 by omega) with rfl | rfl | rfl | rfl | rfl | rfl | rfl | rfl | rfl <;> rfl) (by omega) (by have hb : x_nf 0 = 9 := rfl; omega) hd (fun H1 ha hz hq => ?_)
      have hX := x_X_nO (o' := (0, fun _ => 0, fun _ => none)) hW.2.2 hfr.2.1 hfr.2.2
      have he : x_e cs ad (va_up s.1 (H.size + 24) (some (0, fun _ => 0, fun _ => none)), s.2) (H.size + 24) = some (.inr (0, x_fs ad (0, fun _ => 0, fun _ => none))) := x_eO (o := (0, fun _ => 0, fun _ => none)) (x_h24 _) (va_up_self _ _ _)
      have hw := x_W_new hW he (fun j hj => x_eq_O hj) (fun j hj => va_up_ne _ _ hj) hX ha hq hAn
      have hk := kk _ _ _ _ H1 locs (cells + 1) (slots + 9) h' hw (x_grow hS hz hq) (by omega) (by have hb : x_nf 0 = 9 := rfl; omega)
      rw [List.map_cons, show mE (x_rho ad) (.inr (some (H.size + 24))) = .ref H.size from by rw [mE, x_rho_new]] at hk
      exact hk
    · cases hci
      refine vx_new (ci := 3) (fs := [.null, .int 0]) (C := RX3) (T := TX3) (N := 2) (own := RX6) hx hb hts in_X3 tyX3 tyX3_ok hown (hts _ wd_68) (hts _ wd_69) (hts _ wd_50) hK.1 rfl (fun j hj => by rcases (show j = 0 ∨ j = 1 by omega) with rfl | rfl <;> rfl) (by omega) (by have hb : x_nf 3 = 2 := rfl; omega) hd (fun H1 ha hz hq => ?_)
      have hX := x_X_nO (o' := (3, fun _ => 0, fun _ => none)) hW.2.2 hfr.2.1 hfr.2.2
      have he : x_e cs ad (va_up s.1 (H.size + 24) (some (3, fun _ => 0, fun _ => none)), s.2) (H.size + 24) = some (.inr (3, x_fs ad (3, fun _ => 0, fun _ => none))) := x_eO (o := (3, fun _ => 0, fun _ => none)) (x_h24 _) (va_up_self _ _ _)
      have hw := x_W_new hW he (fun j hj => x_eq_O hj) (fun j hj => va_up_ne _ _ hj) hX ha hq hAn
      have hk := kk _ _ _ _ H1 locs (cells + 1) (slots + 2) h' hw (x_grow hS hz hq) (by omega) (by have hb : x_nf 3 = 2 := rfl; omega)
      rw [List.map_cons, show mE (x_rho ad) (.inr (some (H.size + 24))) = .ref H.size from by rw [mE, x_rho_new]] at hk
      exact hk
    · cases hci
      refine vx_new (ci := 2) (fs := [.null, .null, .int 0, .int 0]) (C := RX2) (T := TX2) (N := 4) (own := RX6) hx hb hts in_X2 tyX2 tyX2_ok hown (hts _ wd_84) (hts _ wd_85) (hts _ wd_51) hK.1 rfl (fun j hj => by rcases (show j = 0 ∨ j = 1 ∨ j = 2 ∨ j = 3 by omega) with rfl | rfl | rfl | rfl <;> rfl) (by omega) (by have hb : x_nf 2 = 4 := rfl; omega) hd (fun H1 ha hz hq => ?_)
      have hX := x_X_nO (o' := (2, fun _ => 0, fun _ => none)) hW.2.2 hfr.2.1 hfr.2.2
      have he : x_e cs ad (va_up s.1 (H.size + 24) (some (2, fun _ => 0, fun _ => none)), s.2) (H.size + 24) = some (.inr (2, x_fs ad (2, fun _ => 0, fun _ => none))) := x_eO (o := (2, fun _ => 0, fun _ => none)) (x_h24 _) (va_up_self _ _ _)
      have hw := x_W_new hW he (fun j hj => x_eq_O hj) (fun j hj => va_up_ne _ _ hj) hX ha hq hAn
      have hk := kk _ _ _ _ H1 locs (cells + 1) (slots + 4) h' hw (x_grow hS hz hq) (by omega) (by have hb : x_nf 2 = 4 := rfl; omega)
      rw [List.map_cons, show mE (x_rho ad) (.inr (some (H.size + 24))) = .ref H.size from by rw [mE, x_rho_new]] at hk
      exact hk
    · cases hci
      refine vx_new (ci := 1) (fs := [.null, .int 0]) (C := RX1) (T := TX1) (N := 2) (own := RX6) hx hb hts in_X1 tyX1 tyX1_ok hown (hts _ wd_106) (hts _ wd_107) (hts _ wd_52) hK.1 rfl (fun j hj => by rcases (show j = 0 ∨ j = 1 by omega) with rfl | rfl <;> rfl) (by omega) (by have hb : x_nf 1 = 2 := rfl; omega) hd (fun H1 ha hz hq => ?_)
      have hX := x_X_nO (o' := (1, fun _ => 0, fun _ => none)) hW.2.2 hfr.2.1 hfr.2.2
      have he : x_e cs ad (va_up s.1 (H.size + 24) (some (1, fun _ => 0, fun _ => none)), s.2) (H.size + 24) = some (.inr (1, x_fs ad (1, fun _ => 0, fun _ => none))) := x_eO (o := (1, fun _ => 0, fun _ => none)) (x_h24 _) (va_up_self _ _ _)
      have hw := x_W_new hW he (fun j hj => x_eq_O hj) (fun j hj => va_up_ne _ _ hj) hX ha hq hAn
      have hk := kk _ _ _ _ H1 locs (cells + 1) (slots + 2) h' hw (x_grow hS hz hq) (by omega) (by have hb : x_nf 1 = 2 := rfl; omega)
      rw [List.map_cons, show mE (x_rho ad) (.inr (some (H.size + 24))) = .ref H.size from by rw [mE, x_rho_new]] at hk
      exact hk
    · cases hci
      refine vx_new (ci := 5) (fs := [.null, .null, .null, .int 0, .null]) (C := RX5) (T := TX5) (N := 5) (own := RX6) hx hb hts in_X5 tyX5 tyX5_ok hown (hts _ wd_122) (hts _ wd_123) (hts _ wd_53) hK.1 rfl (fun j hj => by rcases (show j = 0 ∨ j = 1 ∨ j = 2 ∨ j = 3 ∨ j = 4 by omega) with rfl | rfl | rfl | rfl | rfl <;> rfl) (by omega) (by have hb : x_nf 5 = 5 := rfl; omega) hd (fun H1 ha hz hq => ?_)
      have hX := x_X_nO (o' := (5, fun _ => 0, fun _ => none)) hW.2.2 hfr.2.1 hfr.2.2
      have he : x_e cs ad (va_up s.1 (H.size + 24) (some (5, fun _ => 0, fun _ => none)), s.2) (H.size + 24) = some (.inr (5, x_fs ad (5, fun _ => 0, fun _ => none))) := x_eO (o := (5, fun _ => 0, fun _ => none)) (x_h24 _) (va_up_self _ _ _)
      have hw := x_W_new hW he (fun j hj => x_eq_O hj) (fun j hj => va_up_ne _ _ hj) hX ha hq hAn
      have hk := kk _ _ _ _ H1 locs (cells + 1) (slots + 5) h' hw (x_grow hS hz hq) (by omega) (by have hb : x_nf 5 = 5 := rfl; omega)
      rw [List.map_cons, show mE (x_rho ad) (.inr (some (H.size + 24))) = .ref H.size from by rw [mE, x_rho_new]] at hk
      exact hk
    · cases hci
      refine vx_new (ci := 4) (fs := [.int 0, .int 0, .int 0]) (C := RX4) (T := TX4) (N := 3) (own := RX6) hx hb hts in_X4 tyX4 tyX4_ok hown (hts _ wd_149) (hts _ wd_150) (hts _ wd_54) hK.1 rfl (fun j hj => by rcases (show j = 0 ∨ j = 1 ∨ j = 2 by omega) with rfl | rfl | rfl <;> rfl) (by omega) (by have hb : x_nf 4 = 3 := rfl; omega) hd (fun H1 ha hz hq => ?_)
      have hX := x_X_nO (o' := (4, fun _ => 0, fun _ => none)) hW.2.2 hfr.2.1 hfr.2.2
      have he : x_e cs ad (va_up s.1 (H.size + 24) (some (4, fun _ => 0, fun _ => none)), s.2) (H.size + 24) = some (.inr (4, x_fs ad (4, fun _ => 0, fun _ => none))) := x_eO (o := (4, fun _ => 0, fun _ => none)) (x_h24 _) (va_up_self _ _ _)
      have hw := x_W_new hW he (fun j hj => x_eq_O hj) (fun j hj => va_up_ne _ _ hj) hX ha hq hAn
      have hk := kk _ _ _ _ H1 locs (cells + 1) (slots + 3) h' hw (x_grow hS hz hq) (by omega) (by have hb : x_nf 4 = 3 := rfl; omega)
      rw [List.map_cons, show mE (x_rho ad) (.inr (some (H.size + 24))) = .ref H.size from by rw [mE, x_rho_new]] at hk
      exact hk
    · cases hci
  -- newarray
  · obtain rfl : len = 2 := by simpa [mm_okl] using hn
    split at h <;> (try exact h.elim)
    rename_i n st'
    obtain ⟨gn, ga, gb, gl, h⟩ := h
    have hfr := x_none (x_fresh hW)
    have h' := h (H.size + 24) (by omega) hfr.1 hfr.2.1 hfr.2.2
    refine vx_newi hx hb (hts _ wd_83) hK.1 0 rfl gn gl (by omega) (by omega) hd (fun H1 ha hz hq => ?_)
    have hX := x_X_nG (t' := (n.toNatClampNeg, fun _ => 0)) hW.2.2 hfr.1 hfr.2.2
    have he : x_e cs ad (s.1, va_up s.2.1 (H.size + 24) (some (n.toNatClampNeg, fun _ => 0)), s.2.2) (H.size + 24) = some (.inl (cs 0, n.toNatClampNeg, .inl (fun _ => 0))) := x_eG (t := (n.toNatClampNeg, fun _ => 0)) hX (x_h24 _) (va_up_self _ _ _)
    have hw := x_W_new hW he (fun j hj => x_eq_G hj) (fun j hj => rfl) hX ha hq hAn
    have hk := kk _ _ _ _ H1 locs (cells + 1) (slots + n.toNatClampNeg) h' hw (x_grow hS hz hq) (by omega) (by omega)
    rw [List.map_cons, show mE (x_rho ad) (.inr (some (H.size + 24))) = .ref H.size from by rw [mE, x_rho_new]] at hk
    exact hk
  -- anewarray
  · rename_i i
    split at h <;> (try exact h.elim)
    rename_i n st'
    split at h <;> (try exact h.elim)
    rename_i hci
    obtain ⟨gn, ga, gb, gl, h⟩ := h
    have hfr := x_none (x_fresh hW)
    have h' := h (H.size + 24) (by omega) hfr.1 hfr.2.1 hfr.2.2
    obtain rfl : len = 3 := by simpa [mm_okl] using hn
    have hlk : (Cond.classLink RX6 i RX0).before args s0 = true := by
      replace hci : x_cl6 i = some 0 := hci
      unfold x_cl6 at hci
      split at hci
      · exact hts _ wd_66
      · cases hci
      · cases hci
      · cases hci
      · cases hci
      · cases hci
      · cases hci
    refine vx_newq hx hb hown hlk hK.2.2.1 hK.1 2 rfl gn gl (by omega) (by omega) hd (fun H1 ha hz hq => ?_)
    have hX := x_X_nR (t' := (n.toNatClampNeg, fun _ => none)) hW.2.2 hfr.1 hfr.2.1
    have he : x_e cs ad (s.1, s.2.1, va_up s.2.2 (H.size + 24) (some (n.toNatClampNeg, fun _ => none))) (H.size + 24) = some (.inl (cs 2, n.toNatClampNeg, .inr (.inr (.inr (.inr (fun j => ((fun _ => none : Nat → Option Nat) j).map (x_rho ad))))))) := x_eR (t := (n.toNatClampNeg, fun _ => none)) hX (va_up_self _ _ _)
    have hw := x_W_new hW he (fun j hj => x_eq_R hj) (fun j hj => rfl) hX ha hq hAn
    have hk := kk _ _ _ _ H1 locs (cells + 1) (slots + n.toNatClampNeg) h' hw (x_grow hS hz hq) (by omega) (by omega)
    rw [List.map_cons, show mE (x_rho ad) (.inr (some (H.size + 24))) = .ref H.size from by rw [mE, x_rho_new]] at hk
    exact hk
  -- getstatic
  · rename_i i
    obtain rfl : len = 3 := by simpa [mm_okl] using hn
    split at h <;> (try exact h.elim)
    rename_i r hr
    replace hr : x_sm6 i = some r := hr
    unfold x_sm6 at hr
    split at hr
    · cases hr; exact va_gets (own := RX6) (ref := RX6) hx hb hK.2.2.2.1.1 hS hown (hts _ wd_267) (fun _ h9 => h9) hd (kk _ _ _ _ _ _ _ _ h hW hS hc hs)
    · cases hr; exact va_gets (own := RX6) (ref := RX6) hx hb hK.2.2.2.2.1 hS hown (hts _ wd_269) (fun _ h9 => h9) hd (kk _ _ _ _ _ _ _ _ h hW hS hc hs)
    · cases hr
end XT
