/-! ===== what the law compares: x, and the images' x ===== -/
def refs (w : va_W) (a : Nat) (f : Nat → Option Nat) : Prop := ∃ (q : Nat) (cA : ClassId) (n : Nat), w[q]? = some (a, .inl (cA, n, .inr (.inr (.inr (.inr f)))))
def elq (w : va_W) (a j x : Nat) : Prop := ∃ f : Nat → Option Nat, refs w a f ∧ f j = some x
theorem refs_of {w : va_W} {a n : Nat} {cA : ClassId} {f : Nat → Option Nat} (h : cAt w a (.inl (cA, n, .inr (.inr (.inr (.inr f)))))) : refs w a f := by
  obtain ⟨q, h1⟩ := h
  exact ⟨q, cA, n, h1⟩
def Ox (w w' : va_W) (n : Nat) : Prop := ∀ (a : Nat) (v : Value), a ≠ n → fld w a 10 3 v → fld w' a 10 3 v
def Ax (w w' : va_W) : Prop := ∀ (a : Nat) (v : Value), fld w a 10 3 v → fld w' a 10 3 v
abbrev bF : List (Nat × Nat) := [(11, 5), (11, 6), (10, 3), (10, 7)]
abbrev bF3 : List (Nat × Nat) := [(11, 5), (11, 6), (10, 7)]
abbrev bK : List Nat := [53]
abbrev mF : List (Nat × Nat) := [(12, 22), (12, 36), (12, 37)]
abbrev mK : List Nat := [74, 75]
section BX
variable {p : Program} {l : Launch} {e : Env} {R : Room} {s : State} {m : MethodId} {args : Array Value} {below : List Frame} {meth : Method} {c : Code} {H : Heap} {locs : List Loc} {cells slots : Nat} {Q : State → Prop}
variable {cc : ByteArray} {pc : Nat} {ls : Array Slot} {rest : List Value} {D : va_G} {A : Nat → Prop} {a : Nat} {tys : List (ClassId × FieldType)} {κ : tK} {B : Nat} {ws : va_W}
theorem t_aaldx (hexec : p.tables.exec = Jvm.exec) (hb : c.code = cc) (hw : tW D tys κ B A s ws H locs) {k : Nat} (hκ : κ a = some k) (hab : abt k = 2) {C : String} (hty : aty k = .object C) {i : Int32} (h0 : 0 ≤ i.toInt) (h1 : i.toInt < (aln k : Int)) (hdg : decode cc pc = .ok (.aaload, 1))
    (kk : ∀ a1 : Nat, κ a1 = some (aek k) → elq ws a i.toInt.toNat a1 → W p l e R s m args below meth c H locs cells slots Q (F0 m (pc + 1) ls (.ref a1 :: rest))) : W p l e R s m args below meth c H locs cells slots Q (F0 m pc ls (.int i :: .ref a :: rest)) := by
  obtain ⟨hK, hP, hD, hS, hT⟩ := hw
  obtain ⟨q, e0, hq, he⟩ := hT a k hκ
  obtain ⟨cA, t0, f, ht, rfl, hf⟩ := he.q hab
  obtain ⟨a1, g1, g2⟩ := hf i.toInt.toNat (by omega)
  refine va_aldq (C := C) hexec hb hK hP q t0 hq (by rw [ht, hty]) (in_of h0 h1) hdg ?_
  rw [clamp_toInt, g1]
  exact kk a1 g2 ⟨f, ⟨q, cA, _, hq⟩, g1⟩
end BX
section BY
variable {A : Nat → Prop} {M : List (Nat × Nat)} {MA : List Nat} {κ κ' : tK} {w w' w1 w2 : va_W} {a0 : Nat} {x y : Int32} {xs : Nat → Int32} {ms : Nat → Prop}
theorem refs_sm {a k : Nat} {f : Nat → Option Nat} (h : refs w a f) (hm : Sm M MA κ w w') (hk : κ a = some k) (hA : k ∉ MA) : refs w' a f := by
  obtain ⟨q, cA, n, h1⟩ := h
  obtain ⟨q', h2⟩ := hm.2 a k (cA, n, .inr (.inr (.inr (.inr f)))) hk hA ⟨q, h1⟩
  exact ⟨q', cA, n, h2⟩
theorem refs_up {a b c k : Nat} {v : Value} {f : Nat → Option Nat} (h : refs w a f) (u : Up1 w w' b c k v) : refs w' a f := by
  obtain ⟨q, cA, n, h1⟩ := h
  obtain ⟨q', h2⟩ := u.2.1 a (cA, n, .inr (.inr (.inr (.inr f)))) ⟨q, h1⟩
  exact ⟨q', cA, n, h2⟩
theorem refs_eq {a : Nat} {f f' : Nat → Option Nat} (hD : va_D A w) (h1 : refs w a f) (h2 : refs w a f') : f = f' := by
  obtain ⟨q, cA, n, g1⟩ := h1
  obtain ⟨q', cA', n', g2⟩ := h2
  have hq : q = q' := hD.1 q q' _ _ g1 g2 rfl
  subst hq
  have e := Sum.inl.inj (congrArg Prod.snd (Option.some.inj (g1.symm.trans g2)))
  have e3 : (Sum.inr (.inr (.inr (.inr f))) : (Nat → Int32) ⊕ (Nat → Int64) ⊕ (Nat → UInt32) ⊕ (Nat → UInt64) ⊕ (Nat → Option Nat)) = Sum.inr (.inr (.inr (.inr f'))) := congrArg (fun z => z.2.2) e
  exact Sum.inr.inj (Sum.inr.inj (Sum.inr.inj (Sum.inr.inj e3)))
def BXi (κ : tK) (w : va_W) (nw : Nat) (f : Nat → Option Nat) (xs : Nat → Int32) (ms : Nat → Prop) : Prop := (∀ j : Nat, j < 4 → ∃ (iw : Nat) (m : Int32), f j = some iw ∧ κ iw = some 10 ∧ iw ≠ nw ∧ fld w iw 10 7 (.int m) ∧ (ms j ↔ ¬ m.toInt = 0) ∧ (ms j → fld w iw 10 3 (.int (xs j)))) ∧ (∀ i j : Nat, i < 4 → j < 4 → f i = f j → i = j)
def BXS (κ : tK) (w : va_W) (a0 : Nat) (x : Int32) (xs : Nat → Int32) (ms : Nat → Prop) : Prop := ∃ (nw im : Nat) (f : Nat → Option Nat), fld w a0 11 5 (.ref nw) ∧ κ nw = some 10 ∧ fld w nw 10 3 (.int x) ∧ fld w a0 11 6 (.ref im) ∧ κ im = some 53 ∧ refs w im f ∧ BXi κ w nw f xs ms
theorem BXS.sm (h : BXS κ w a0 x xs ms) (hm : Sm M MA κ w w') (hM : ∀ x ∈ M, x ∉ bF) (hA : ∀ x ∈ MA, x ∉ bK) : BXS κ w' a0 x xs ms := by
  obtain ⟨nw, im, f, f1, k1, f2, f3, k2, r1, hi, hj⟩ := h
  have nM : ∀ x : Nat × Nat, x ∈ bF → x ∉ M := fun x hx hz => hM x hz hx
  refine ⟨nw, im, f, hm.1 _ _ _ _ f1 (nM _ (by decide)), k1, hm.1 _ _ _ _ f2 (nM _ (by decide)), hm.1 _ _ _ _ f3 (nM _ (by decide)), k2, refs_sm r1 hm k2 (fun z => hA _ z List.mem_cons_self), fun j hj4 => ?_, hj⟩
  obtain ⟨iw, m, g1, g2, g3, g4, g5, g6⟩ := hi j hj4
  exact ⟨iw, m, g1, g2, g3, hm.1 _ _ _ _ g4 (nM _ (by decide)), g5, fun z => hm.1 _ _ _ _ (g6 z) (nM _ (by decide))⟩
theorem BXS.ext (h : BXS κ w a0 x xs ms) (hx : Ext κ κ') : BXS κ' w a0 x xs ms := by
  obtain ⟨nw, im, f, f1, k1, f2, f3, k2, r1, hi, hj⟩ := h
  refine ⟨nw, im, f, f1, hx _ _ k1, f2, f3, hx _ _ k2, r1, fun j hj4 => ?_, hj⟩
  obtain ⟨iw, m, g1, g2, g3⟩ := hi j hj4
  exact ⟨iw, m, g1, hx _ _ g2, g3⟩
theorem BXS.getx {nw' : Nat} (h : BXS κ w a0 x xs ms) (hD : va_D A w) (hf : fld w a0 11 5 (.ref nw')) (hy : fld w nw' 10 3 (.int y)) : y = x := by
  obtain ⟨nw, im, f, f1, k1, f2, f3, k2, r1, hi, hj⟩ := h
  have es := ref_eq hD f1 hf
  subst es
  have := fld_eq hD hy f2
  cases this
  rfl
theorem BXS.putx {nw' : Nat} (h : BXS κ w a0 x xs ms) (hD : va_D A w') (hf : fld w' a0 11 5 (.ref nw')) (u : Up1 w w' nw' 10 3 (.int y)) : BXS κ w' a0 y xs ms := by
  obtain ⟨nw, im, f, f1, k1, f2, f3, k2, r1, hi, hj⟩ := h
  have f1' := u.1 _ _ _ _ f1 (Or.inr (Or.inl (by decide)))
  have es := ref_eq hD f1' hf
  subst es
  refine ⟨nw, im, f, f1', k1, u.2.2, u.1 _ _ _ _ f3 (Or.inr (Or.inl (by decide))), k2, refs_up r1 u, fun j hj4 => ?_, hj⟩
  obtain ⟨iw, m, g1, g2, g3, g4, g5, g6⟩ := hi j hj4
  exact ⟨iw, m, g1, g2, g3, u.1 _ _ _ _ g4 (Or.inr (Or.inr (by decide))), g5, fun z => u.1 _ _ _ _ (g6 z) (Or.inl g3)⟩
theorem BXS.im {im' iw' j : Nat} {v : Int32} (h : BXS κ w a0 x xs ms) (hD : va_D A w) (fm : fld w a0 11 6 (.ref im')) (q : elq w im' j iw') (hj : j < 4) (hv : fld w iw' 10 7 (.int v)) : ms j ↔ ¬ v.toInt = 0 := by
  obtain ⟨nw, im, f, f1, k1, f2, f3, k2, r1, hi, -⟩ := h
  have es := ref_eq hD f3 fm
  subst es
  obtain ⟨f', r', hq⟩ := q
  have e3 := refs_eq hD r1 r'
  subst e3
  obtain ⟨iw, m, g1, g2, g3, g4, g5, g6⟩ := hi j hj
  have e4 : iw = iw' := Option.some.inj (g1.symm.trans hq)
  subst e4
  have e5 := fld_eq hD hv g4
  cases e5
  exact g5
theorem BXS.img {k iw iw2 im' nw' : Nat} {m1 : Int32} (h : BXS κ w a0 x xs ms) (hD : va_D A w) (hD1 : va_D A w1) (fm : fld w a0 11 6 (.ref im')) (fn : fld w a0 11 5 (.ref nw')) (q : elq w im' k iw) (hk : k < 4) (hm : Sm M MA κ w w1) (hM : ∀ x ∈ M, x ∉ bF3) (hA : ∀ x ∈ MA, x ∉ bK) (hcx : ∀ v : Value, fld w nw' 10 3 v → fld w1 iw 10 3 v) (hox : Ox w w1 iw) (q2 : elq w1 im' k iw2) (u : Up1 w1 w2 iw2 10 7 (.int m1)) (hm1 : ¬ m1.toInt = 0) : BXS κ w2 a0 x (upd xs k x) (fun j => j = k ∨ ms j) := by
  obtain ⟨nw, im, f, f1, k1, f2, f3, k2, r1, hi, hj⟩ := h
  have e1 := ref_eq hD f3 fm
  subst e1
  have e2 := ref_eq hD f1 fn
  subst e2
  obtain ⟨f', r', hq⟩ := q
  have e3 := refs_eq hD r1 r'
  subst e3
  have nM : ∀ x : Nat × Nat, x ∈ bF3 → x ∉ M := fun x hx hz => hM x hz hx
  have r1' := refs_sm r1 hm k2 (fun z => hA _ z List.mem_cons_self)
  obtain ⟨f4, r2', hq2⟩ := q2
  have e4 := refs_eq hD1 r1' r2'
  subst e4
  have e5 : iw = iw2 := Option.some.inj (hq.symm.trans hq2)
  subst e5
  have hne : iw ≠ nw := by
    obtain ⟨iw0, m0, g1, g2, g3, -⟩ := hi k hk
    have e6 : iw0 = iw := Option.some.inj (g1.symm.trans hq)
    subst e6
    exact g3
  have f2' := hox nw _ (Ne.symm hne) f2
  have c1 := hcx _ f2
  refine ⟨nw, im, f, u.1 _ _ _ _ (hm.1 _ _ _ _ f1 (nM _ (by decide))) (Or.inr (Or.inl (by decide))), k1, u.1 _ _ _ _ f2' (Or.inr (Or.inr (by decide))), u.1 _ _ _ _ (hm.1 _ _ _ _ f3 (nM _ (by decide))) (Or.inr (Or.inl (by decide))), k2, refs_up r1' u, fun j hj4 => ?_, hj⟩
  obtain ⟨iwj, m, g1, g2, g3, g4, g5, g6⟩ := hi j hj4
  by_cases hjk : j = k
  · subst hjk
    have e6 : iwj = iw := Option.some.inj (g1.symm.trans hq)
    subst e6
    refine ⟨iwj, m1, g1, g2, g3, u.2.2, ⟨fun _ => hm1, fun _ => Or.inl rfl⟩, fun _ => ?_⟩
    rw [updAt]
    exact u.1 _ _ _ _ c1 (Or.inr (Or.inr (by decide)))
  · have hn : iwj ≠ iw := fun z => hjk (hj j k hj4 hk (by rw [g1, hq, z]))
    refine ⟨iwj, m, g1, g2, g3, u.1 _ _ _ _ (hm.1 _ _ _ _ g4 (nM _ (by decide))) (Or.inl hn), ⟨fun z => g5.mp (z.resolve_left hjk), fun z => Or.inr (g5.mpr z)⟩, fun z => ?_⟩
    rw [updNe hjk]
    exact u.1 _ _ _ _ (hox _ _ hn (g6 (z.resolve_left hjk))) (Or.inl hn)
theorem BXS.bck {k iw im' nw' : Nat} (h : BXS κ w a0 x xs ms) (hD : va_D A w) (fm : fld w a0 11 6 (.ref im')) (fn : fld w a0 11 5 (.ref nw')) (q : elq w im' k iw) (hk : k < 4) (hms : ms k) (hm : Sm M MA κ w w1) (hM : ∀ x ∈ M, x ∉ bF3) (hA : ∀ x ∈ MA, x ∉ bK) (hcx : ∀ v : Value, fld w iw 10 3 v → fld w1 nw' 10 3 v) (hox : Ox w w1 nw') : BXS κ w1 a0 (xs k) xs ms := by
  obtain ⟨nw, im, f, f1, k1, f2, f3, k2, r1, hi, hj⟩ := h
  have e1 := ref_eq hD f3 fm
  subst e1
  have e2 := ref_eq hD f1 fn
  subst e2
  obtain ⟨f', r', hq⟩ := q
  have e3 := refs_eq hD r1 r'
  subst e3
  have nM : ∀ x : Nat × Nat, x ∈ bF3 → x ∉ M := fun x hx hz => hM x hz hx
  have hx : fld w iw 10 3 (.int (xs k)) := by
    obtain ⟨iw0, m0, g1, g2, g3, g4, g5, g6⟩ := hi k hk
    have e6 : iw0 = iw := Option.some.inj (g1.symm.trans hq)
    subst e6
    exact g6 hms
  refine ⟨nw, im, f, hm.1 _ _ _ _ f1 (nM _ (by decide)), k1, hcx _ hx, hm.1 _ _ _ _ f3 (nM _ (by decide)), k2, refs_sm r1 hm k2 (fun z => hA _ z List.mem_cons_self), fun j hj4 => ?_, hj⟩
  obtain ⟨iwj, m, g1, g2, g3, g4, g5, g6⟩ := hi j hj4
  exact ⟨iwj, m, g1, g2, g3, hm.1 _ _ _ _ g4 (nM _ (by decide)), g5, fun z => hox _ _ g3 (g6 z)⟩
def MXS (κ : tK) (w : va_W) (a0 : Nat) (x : Int32) (xs : Nat → Int32) (ms : Nat → Prop) : Prop := fld w a0 12 22 (.int x) ∧ ∃ (ix md : Nat) (gx gm : Nat → Int32), fld w a0 12 36 (.ref ix) ∧ κ ix = some 74 ∧ arr w ix gx ∧ fld w a0 12 37 (.ref md) ∧ κ md = some 75 ∧ arr w md gm ∧ ∀ j : Nat, j < 4 → (ms j ↔ ¬ (gm j).toInt = 0) ∧ (ms j → gx j = xs j)
/-- the image k is made, but its x is not yet kept -/
def MXJ (κ : tK) (w : va_W) (a0 k : Nat) (x : Int32) (xs : Nat → Int32) (ms : Nat → Prop) : Prop := fld w a0 12 22 (.int x) ∧ ∃ (ix md : Nat) (gx gm : Nat → Int32), fld w a0 12 36 (.ref ix) ∧ κ ix = some 74 ∧ arr w ix gx ∧ fld w a0 12 37 (.ref md) ∧ κ md = some 75 ∧ arr w md gm ∧ ∀ j : Nat, j < 4 → ((j = k ∨ ms j) ↔ ¬ (gm j).toInt = 0) ∧ (¬ j = k → ms j → gx j = xs j)
theorem MXS.sm (h : MXS κ w a0 x xs ms) (hm : Sm M MA κ w w') (hM : ∀ x ∈ M, x ∉ mF) (hA : ∀ x ∈ MA, x ∉ mK) : MXS κ w' a0 x xs ms := by
  obtain ⟨f0, ix, md, gx, gm, f1, k1, a1, f2, k2, a2, h3⟩ := h
  have nM : ∀ x : Nat × Nat, x ∈ mF → x ∉ M := fun x hx hz => hM x hz hx
  have nA : ∀ x : Nat, x ∈ mK → x ∉ MA := fun x hx hz => hA x hz hx
  exact ⟨hm.1 _ _ _ _ f0 (nM _ (by decide)), ix, md, gx, gm, hm.1 _ _ _ _ f1 (nM _ (by decide)), k1, arr_sm a1 hm k1 (nA _ (by decide)), hm.1 _ _ _ _ f2 (nM _ (by decide)), k2, arr_sm a2 hm k2 (nA _ (by decide)), h3⟩
theorem MXJ.sm {k : Nat} (h : MXJ κ w a0 k x xs ms) (hm : Sm M MA κ w w') (hM : ∀ x ∈ M, x ∉ mF) (hA : ∀ x ∈ MA, x ∉ mK) : MXJ κ w' a0 k x xs ms := by
  obtain ⟨f0, ix, md, gx, gm, f1, k1, a1, f2, k2, a2, h3⟩ := h
  have nM : ∀ x : Nat × Nat, x ∈ mF → x ∉ M := fun x hx hz => hM x hz hx
  have nA : ∀ x : Nat, x ∈ mK → x ∉ MA := fun x hx hz => hA x hz hx
  exact ⟨hm.1 _ _ _ _ f0 (nM _ (by decide)), ix, md, gx, gm, hm.1 _ _ _ _ f1 (nM _ (by decide)), k1, arr_sm a1 hm k1 (nA _ (by decide)), hm.1 _ _ _ _ f2 (nM _ (by decide)), k2, arr_sm a2 hm k2 (nA _ (by decide)), h3⟩
theorem MXS.ext (h : MXS κ w a0 x xs ms) (hx : Ext κ κ') : MXS κ' w a0 x xs ms := by
  obtain ⟨f0, ix, md, gx, gm, f1, k1, a1, f2, k2, a2, h3⟩ := h
  exact ⟨f0, ix, md, gx, gm, f1, hx _ _ k1, a1, f2, hx _ _ k2, a2, h3⟩
theorem MXS.getx (h : MXS κ w a0 x xs ms) (hD : va_D A w) (hy : fld w a0 12 22 (.int y)) : y = x := by
  have := fld_eq hD hy h.1
  cases this
  rfl
theorem MXJ.getx {k : Nat} (h : MXJ κ w a0 k x xs ms) (hD : va_D A w) (hy : fld w a0 12 22 (.int y)) : y = x := by
  have := fld_eq hD hy h.1
  cases this
  rfl
theorem arr_up1 {a b c k : Nat} {v : Value} {f : Nat → Int32} (h : arr w a f) (u : Up1 w w' b c k v) : arr w' a f := by
  obtain ⟨q, cA, n, h1⟩ := h
  obtain ⟨q', h2⟩ := u.2.1 a (cA, n, .inl f) ⟨q, h1⟩
  exact ⟨q', cA, n, h2⟩
theorem MXS.putx (h : MXS κ w a0 x xs ms) (u : Up1 w w' a0 12 22 (.int y)) : MXS κ w' a0 y xs ms := by
  obtain ⟨f0, ix, md, gx, gm, f1, k1, a1, f2, k2, a2, h3⟩ := h
  exact ⟨u.2.2, ix, md, gx, gm, u.1 _ _ _ _ f1 (Or.inr (Or.inr (by decide))), k1, arr_up1 a1 u, u.1 _ _ _ _ f2 (Or.inr (Or.inr (by decide))), k2, arr_up1 a2 u, h3⟩
theorem MXS.gm {md' j : Nat} {v : Int32} (h : MXS κ w a0 x xs ms) (hD : va_D A w) (hf : fld w a0 12 37 (.ref md')) (he : elt w md' j v) (hj : j < 4) : ms j ↔ ¬ v.toInt = 0 := by
  obtain ⟨f0, ix, md, gx, gm, f1, k1, a1, f2, k2, a2, h3⟩ := h
  have es := ref_eq hD f2 hf
  subst es
  rw [arr_elt hD a2 he]
  exact (h3 j hj).1
theorem MXS.gx {ix' j : Nat} {v : Int32} (h : MXS κ w a0 x xs ms) (hD : va_D A w) (hf : fld w a0 12 36 (.ref ix')) (he : elt w ix' j v) (hj : j < 4) (hms : ms j) : v = xs j := by
  obtain ⟨f0, ix, md, gx, gm, f1, k1, a1, f2, k2, a2, h3⟩ := h
  have es := ref_eq hD f1 hf
  subst es
  rw [arr_elt hD a1 he]
  exact (h3 j hj).2 hms
theorem MXS.mk1 {md' k : Nat} {v : Int32} (h : MXS κ w a0 x xs ms) (hD : va_D A w') (hf : fld w' a0 12 37 (.ref md')) (u : Up3 w w' md' k v) (hv : ¬ v.toInt = 0) : MXJ κ w' a0 k x xs ms := by
  obtain ⟨f0, ix, md, gx, gm, f1, k1, a1, f2, k2, a2, h3⟩ := h
  have es := ref_eq hD (u.1 _ _ _ _ f2) hf
  subst es
  refine ⟨u.1 _ _ _ _ f0, ix, md, gx, upd gm k v, u.1 _ _ _ _ f1, k1, arr_o u a1 (ne_k k1 k2 (by decide)), u.1 _ _ _ _ f2, k2, arr_up u hD a2, fun j hj => ?_⟩
  by_cases hjk : j = k
  · subst hjk
    rw [updAt]
    exact ⟨⟨fun _ => hv, fun _ => Or.inl rfl⟩, fun z => absurd rfl z⟩
  · rw [updNe hjk]
    exact ⟨⟨fun z => (h3 j hj).1.mp (z.resolve_left hjk), fun z => Or.inr ((h3 j hj).1.mpr z)⟩, fun _ z => (h3 j hj).2 z⟩
theorem MXJ.mk2 {ix' k : Nat} (h : MXJ κ w a0 k x xs ms) (hD : va_D A w') (hf : fld w' a0 12 36 (.ref ix')) (u : Up3 w w' ix' k x) : MXS κ w' a0 x (upd xs k x) (fun j => j = k ∨ ms j) := by
  obtain ⟨f0, ix, md, gx, gm, f1, k1, a1, f2, k2, a2, h3⟩ := h
  have es := ref_eq hD (u.1 _ _ _ _ f1) hf
  subst es
  refine ⟨u.1 _ _ _ _ f0, ix, md, upd gx k x, gm, u.1 _ _ _ _ f1, k1, arr_up u hD a1, u.1 _ _ _ _ f2, k2, arr_o u a2 (ne_k k2 k1 (by decide)), fun j hj => ⟨(h3 j hj).1, fun z => ?_⟩⟩
  by_cases hjk : j = k
  · subst hjk
    rw [updAt, updAt]
  · rw [updNe hjk, updNe hjk]
    exact (h3 j hj).2 hjk (z.resolve_left hjk)
def DY (κ : tK) (w : va_W) (a0 : Nat) : Prop := ∃ (sA : Nat) (d : Int32), fld w a0 12 20 (.ref sA) ∧ κ sA = some 63 ∧ elt w sA (10 : Int32).toInt.toNat d ∧ 0 ≤ d.toInt ∧ d.toInt ≤ 999
theorem DY.sm (h : DY κ w a0) (hm : Sm M MA κ w w') (hM : (12, 20) ∉ M) (hA : 63 ∉ MA) : DY κ w' a0 := by
  obtain ⟨sA, d, h1, h2, h3, h4⟩ := h
  exact ⟨sA, d, hm.1 _ _ _ _ h1 hM, h2, hm.elt h2 hA h3, h4⟩
theorem DY.ext (h : DY κ w a0) (hx : Ext κ κ') : DY κ' w a0 := by
  obtain ⟨sA, d, h1, h2, h3⟩ := h
  exact ⟨sA, d, h1, hx _ _ h2, h3⟩
theorem RT.ext (h : RT κ w a0) (hx : Ext κ κ') : RT κ' w a0 := by
  obtain ⟨g, fl, fq, fn, ⟨s, l, q, n, f1, f2, f3, f4, k1, k2, k3, k4, e⟩, h2⟩ := h
  exact ⟨g, fl, fq, fn, ⟨s, l, q, n, f1, f2, f3, f4, hx _ _ k1, hx _ _ k2, hx _ _ k3, hx _ _ k4, e⟩, h2⟩
theorem Ox.sm {n : Nat} (h : Ox w w1 n) (hm : Sm M MA κ w1 w2) (hM : (10, 3) ∉ M) : Ox w w2 n := fun a v ha hf => hm.1 _ _ _ _ (h a v ha hf) hM
theorem Ax.sm (h : Ax w w1) (hm : Sm M MA κ w1 w2) (hM : (10, 3) ∉ M) : Ax w w2 := fun a v hf => hm.1 _ _ _ _ (h a v hf) hM
theorem cx_sm {a b : Nat} (h : ∀ v : Value, fld w b 10 3 v → fld w1 a 10 3 v) (hm : Sm M MA κ w1 w2) (hM : (10, 3) ∉ M) : ∀ v : Value, fld w b 10 3 v → fld w2 a 10 3 v := fun v hf => hm.1 _ _ _ _ (h v hf) hM
theorem inj4 {f : Nat → Option Nat} {a b c d : Nat} (h0 : f 0 = some a) (h1 : f 1 = some b) (h2 : f 2 = some c) (h3 : f 3 = some d) (ab : a ≠ b) (ac : a ≠ c) (ad : a ≠ d) (bc : b ≠ c) (bd : b ≠ d) (cd : c ≠ d) : ∀ i j : Nat, i < 4 → j < 4 → f i = f j → i = j := by
  intro i j hi hj h
  rcases (by omega : i = 0 ∨ i = 1 ∨ i = 2 ∨ i = 3) with rfl | rfl | rfl | rfl <;> rcases (by omega : j = 0 ∨ j = 1 ∨ j = 2 ∨ j = 3) with rfl | rfl | rfl | rfl <;> first | rfl | (exfalso; simp only [h0, h1, h2, h3, Option.some.injEq] at h; first | exact ab h | exact ab h.symm | exact ac h | exact ac h.symm | exact ad h | exact ad h.symm | exact bc h | exact bc h.symm | exact bd h | exact bd h.symm | exact cd h | exact cd h.symm)
theorem RT_new {s l q n : Nat} (f1 : fld w a0 12 3 (.ref s)) (f2 : fld w a0 12 4 (.ref l)) (f3 : fld w a0 12 5 (.ref q)) (f4 : fld w a0 12 6 (.ref n)) (k1 : κ s = some 55) (k2 : κ l = some 56) (k3 : κ q = some 57) (k4 : κ n = some 58) (e1 : arr w s (fun _ => 0)) (e2 : arr w l (fun _ => 0)) (e3 : arr w q (fun _ => 0)) (e4 : arr w n (fun _ => 0)) : RT κ w a0 :=
  ⟨_, _, _, _, ⟨s, l, q, n, f1, f2, f3, f4, k1, k2, k3, k4, e1, e2, e3, e4⟩, fun t _ => ⟨by decide, fun c hc => absurd hc (by rw [show (0 : Int32).toInt = 0 by decide]; omega)⟩⟩
theorem MXS_new {ix md : Nat} (f0 : fld w a0 12 22 (.int 0)) (f1 : fld w a0 12 36 (.ref ix)) (k1 : κ ix = some 74) (a1 : arr w ix (fun _ => 0)) (f2 : fld w a0 12 37 (.ref md)) (k2 : κ md = some 75) (a2 : arr w md (fun _ => 0)) : MXS κ w a0 0 (fun _ => 0) (fun _ => False) :=
  ⟨f0, ix, md, _, _, f1, k1, a1, f2, k2, a2, fun j _ => ⟨⟨fun z => z.elim, fun z => absurd (by decide) z⟩, fun z => z.elim⟩⟩
end BY
theorem Sm.of2 {κ : tK} {w w' : va_W} {a k : Nat} {y : ClassId × vp_A} (u : Up2 w w' a y) (hk : κ a = some k) : Sm [] [k] κ w w' := Sm.rf.up2 u hk List.mem_cons_self
