/-! ===== a heap by kinds: each address that κ names holds a cell of its kind, whose numbers lie between bounds and whose references are of kinds ===== -/
abbrev tK : Type := Nat → Option Nat
abbrev tV : Type := Nat × Int × Int
def okV (κ : tK) (t : tV) (v : Value) : Prop := (t.1 = 0 ∧ ∃ x : Int32, v = .int x ∧ t.2.1 ≤ x.toInt ∧ x.toInt ≤ t.2.2) ∨ (t.1 = 1 ∧ ∃ x : Int64, v = .long x) ∨ (t.1 = 2 ∧ ∃ a : Nat, v = .ref a ∧ κ a = some t.2.1.toNat) ∨ (t.1 = 3 ∧ (v = .null ∨ ∃ a : Nat, v = .ref a ∧ κ a = some t.2.1.toNat))
theorem okV.int {κ : tK} {t : tV} {lo hi : Int} (ht : t = (0, lo, hi)) {x : Int32} (h1 : lo ≤ x.toInt) (h2 : x.toInt ≤ hi) : okV κ t (.int x) := by subst ht; exact Or.inl ⟨rfl, x, rfl, h1, h2⟩
theorem okV.long {κ : tK} {t : tV} {lo hi : Int} (ht : t = (1, lo, hi)) {x : Int64} : okV κ t (.long x) := by subst ht; exact Or.inr (Or.inl ⟨rfl, x, rfl⟩)
theorem okV.ref {κ : tK} {t : tV} {k : Nat} {hi : Int} (ht : t = (2, (k : Int), hi)) {a : Nat} (h : κ a = some k) : okV κ t (.ref a) := by subst ht; exact Or.inr (Or.inr (Or.inl ⟨rfl, a, rfl, h⟩))
theorem okV.refN {κ : tK} {t : tV} {k : Nat} {hi : Int} (ht : t = (3, (k : Int), hi)) {a : Nat} (h : κ a = some k) : okV κ t (.ref a) := by subst ht; exact Or.inr (Or.inr (Or.inr ⟨rfl, Or.inr ⟨a, rfl, h⟩⟩))
theorem okV.null {κ : tK} {t : tV} {k hi : Int} (ht : t = (3, k, hi)) : okV κ t .null := by subst ht; exact Or.inr (Or.inr (Or.inr ⟨rfl, Or.inl rfl⟩))
theorem okV.geti {κ : tK} {t : tV} {lo hi : Int} {v : Value} (h : okV κ t v) (ht : t = (0, lo, hi)) : ∃ x : Int32, v = .int x ∧ lo ≤ x.toInt ∧ x.toInt ≤ hi := by
  subst ht
  rcases h with ⟨-, h⟩ | ⟨h, -⟩ | ⟨h, -⟩ | ⟨h, -⟩
  · exact h
  · simp at h
  · simp at h
  · simp at h
theorem okV.getl {κ : tK} {t : tV} {lo hi : Int} {v : Value} (h : okV κ t v) (ht : t = (1, lo, hi)) : ∃ x : Int64, v = .long x := by
  subst ht
  rcases h with ⟨h, -⟩ | ⟨-, h⟩ | ⟨h, -⟩ | ⟨h, -⟩
  · simp at h
  · exact h
  · simp at h
  · simp at h
theorem okV.getr {κ : tK} {t : tV} {k : Nat} {hi : Int} {v : Value} (h : okV κ t v) (ht : t = (2, (k : Int), hi)) : ∃ a : Nat, v = .ref a ∧ κ a = some k := by
  subst ht
  rcases h with ⟨h, -⟩ | ⟨h, -⟩ | ⟨-, h⟩ | ⟨h, -⟩
  · simp at h
  · simp at h
  · exact h
  · simp at h
theorem okV.getn {κ : tK} {t : tV} {k : Nat} {hi : Int} {v : Value} (h : okV κ t v) (ht : t = (3, (k : Int), hi)) : v = .null ∨ ∃ a : Nat, v = .ref a ∧ κ a = some k := by
  subst ht
  rcases h with ⟨h, -⟩ | ⟨h, -⟩ | ⟨h, -⟩ | ⟨-, h⟩
  · simp at h
  · simp at h
  · simp at h
  · exact h
theorem okV.ext {κ κ' : tK} (hx : ∀ a k, κ a = some k → κ' a = some k) {t : tV} {v : Value} (h : okV κ t v) : okV κ' t v := by
  rcases h with h | h | ⟨h1, a, h2, h3⟩ | ⟨h1, h2 | ⟨a, h2, h3⟩⟩
  · exact Or.inl h
  · exact Or.inr (Or.inl h)
  · exact Or.inr (Or.inr (Or.inl ⟨h1, a, h2, hx _ _ h3⟩))
  · exact Or.inr (Or.inr (Or.inr ⟨h1, Or.inl h2⟩))
  · exact Or.inr (Or.inr (Or.inr ⟨h1, Or.inr ⟨a, h2, hx _ _ h3⟩⟩))
/-! a kind below 20 is a class (by its number), others are arrays: abt 0 ints (bytes, booleans), 1 longs, 2 references, 3 references or null -/
def okO (κ : tK) (k : Nat) (e : va_E) : Prop := ∃ fs : List Value, e = .inr (k, fs) ∧ fs.length = nF k ∧ ∀ (j : Nat) (v : Value), fs[j]? = some v → okV κ (ft k j) v
def okI (tys : List (ClassId × FieldType)) (B : Nat) (k : Nat) (e : va_E) : Prop := ∃ (cA : ClassId) (t0 : Nat) (f : Nat → Int32), tys[t0]? = some (cA, aty k) ∧ e = .inl (cA, aln k, .inl f) ∧ ∀ j : Nat, j < aln k → (aiv B k j).1 ≤ (f j).toInt ∧ (f j).toInt ≤ (aiv B k j).2
def okL (tys : List (ClassId × FieldType)) (k : Nat) (e : va_E) : Prop := ∃ (cA : ClassId) (t0 : Nat) (f : Nat → Int64), tys[t0]? = some (cA, aty k) ∧ e = .inl (cA, aln k, .inr (.inl f))
def okQ (κ : tK) (tys : List (ClassId × FieldType)) (k : Nat) (e : va_E) : Prop := ∃ (cA : ClassId) (t0 : Nat) (f : Nat → Option Nat), tys[t0]? = some (cA, aty k) ∧ e = .inl (cA, aln k, .inr (.inr (.inr (.inr f)))) ∧ ∀ j : Nat, j < aln k → ∃ a : Nat, f j = some a ∧ κ a = some (aek k)
def okN (κ : tK) (tys : List (ClassId × FieldType)) (k : Nat) (e : va_E) : Prop := ∃ (cA : ClassId) (t0 : Nat) (f : Nat → Option Nat), tys[t0]? = some (cA, aty k) ∧ e = .inl (cA, aln k, .inr (.inr (.inr (.inr f)))) ∧ ∀ j : Nat, j < aln k → ∀ a : Nat, f j = some a → κ a = some (aek k)
def okE (κ : tK) (tys : List (ClassId × FieldType)) (B : Nat) (k : Nat) (e : va_E) : Prop := (abt k = 9 ∧ okO κ k e) ∨ (abt k = 0 ∧ okI tys B k e) ∨ (abt k = 1 ∧ okL tys k e) ∨ (abt k = 2 ∧ okQ κ tys k e) ∨ (abt k = 3 ∧ okN κ tys k e)
theorem okE.o {κ : tK} {tys : List (ClassId × FieldType)} {B k : Nat} {e : va_E} (h : okE κ tys B k e) (hk : abt k = 9) : okO κ k e := by
  rcases h with ⟨-, h⟩ | ⟨h, -⟩ | ⟨h, -⟩ | ⟨h, -⟩ | ⟨h, -⟩ <;> first | exact h | (rw [hk] at h; exact absurd h (by decide))
theorem okE.i {κ : tK} {tys : List (ClassId × FieldType)} {B k : Nat} {e : va_E} (h : okE κ tys B k e) (hk : abt k = 0) : okI tys B k e := by
  rcases h with ⟨h, -⟩ | ⟨-, h⟩ | ⟨h, -⟩ | ⟨h, -⟩ | ⟨h, -⟩ <;> first | exact h | (rw [hk] at h; exact absurd h (by decide))
theorem okE.l {κ : tK} {tys : List (ClassId × FieldType)} {B k : Nat} {e : va_E} (h : okE κ tys B k e) (hk : abt k = 1) : okL tys k e := by
  rcases h with ⟨h, -⟩ | ⟨h, -⟩ | ⟨-, h⟩ | ⟨h, -⟩ | ⟨h, -⟩ <;> first | exact h | (rw [hk] at h; exact absurd h (by decide))
theorem okE.q {κ : tK} {tys : List (ClassId × FieldType)} {B k : Nat} {e : va_E} (h : okE κ tys B k e) (hk : abt k = 2) : okQ κ tys k e := by
  rcases h with ⟨h, -⟩ | ⟨h, -⟩ | ⟨h, -⟩ | ⟨-, h⟩ | ⟨h, -⟩ <;> first | exact h | (rw [hk] at h; exact absurd h (by decide))
theorem okE.n {κ : tK} {tys : List (ClassId × FieldType)} {B k : Nat} {e : va_E} (h : okE κ tys B k e) (hk : abt k = 3) : okN κ tys k e := by
  rcases h with ⟨h, -⟩ | ⟨h, -⟩ | ⟨h, -⟩ | ⟨h, -⟩ | ⟨-, h⟩ <;> first | exact h | (rw [hk] at h; exact absurd h (by decide))
/-- the whole heap by kinds -/
def Ty (κ : tK) (tys : List (ClassId × FieldType)) (B : Nat) (ws : va_W) : Prop := ∀ a k : Nat, κ a = some k → ∃ (q : Nat) (e : va_E), ws[q]? = some (a, e) ∧ okE κ tys B k e
theorem Ty.set {κ : tK} {tys : List (ClassId × FieldType)} {B : Nat} {ws : va_W} {q a k : Nat} {e0 e : va_E} (h : Ty κ tys B ws) (hq : ws[q]? = some (a, e0)) (hk : κ a = some k) (he : okE κ tys B k e) : Ty κ tys B (ws.set q (a, e)) := by
  have hl := (List.getElem?_eq_some_iff.mp hq).1
  intro a' k' h'
  by_cases ha : a' = a
  · subst ha
    have : k' = k := Option.some.inj (h'.symm.trans hk)
    subst this
    exact ⟨q, e, by rw [List.getElem?_set_self hl], he⟩
  · obtain ⟨q', e', g1, g2⟩ := h a' k' h'
    have hne : q ≠ q' := fun z => by
      subst z
      exact ha (congrArg Prod.fst (Option.some.inj (g1.symm.trans hq)))
    exact ⟨q', e', by rw [List.getElem?_set_ne hne]; exact g1, g2⟩
/-! what is known of single cells, and what a step leaves as it was -/
def fld (ws : va_W) (a c k : Nat) (v : Value) : Prop := ∃ (q : Nat) (fs : List Value), ws[q]? = some (a, .inr (c, fs)) ∧ fs[k]? = some v
def cel (ws : va_W) (a : Nat) (x : ClassId × vp_A) : Prop := ∃ q : Nat, ws[q]? = some (a, .inl x)
def Sm (M : List (Nat × Nat)) (MA : List Nat) (κ : tK) (ws ws' : va_W) : Prop := (∀ (a c k : Nat) (v : Value), fld ws a c k v → (c, k) ∉ M → fld ws' a c k v) ∧ ∀ (a k : Nat) (x : ClassId × vp_A), κ a = some k → k ∉ MA → cel ws a x → cel ws' a x
theorem Sm.rf {M : List (Nat × Nat)} {MA : List Nat} {κ : tK} {ws : va_W} : Sm M MA κ ws ws := ⟨fun _ _ _ _ h _ => h, fun _ _ _ _ _ h => h⟩
theorem Sm.trans {M M1 : List (Nat × Nat)} {MA MA1 : List Nat} {κ : tK} {w0 w1 w2 : va_W} (h : Sm M MA κ w0 w1) (h1 : Sm M1 MA1 κ w1 w2) (hM : ∀ x ∈ M1, x ∈ M) (hA : ∀ x ∈ MA1, x ∈ MA) : Sm M MA κ w0 w2 :=
  ⟨fun a c k v hf hn => h1.1 a c k v (h.1 a c k v hf hn) (fun z => hn (hM _ z)), fun a k x hk hn hc => h1.2 a k x hk (fun z => hn (hA _ z)) (h.2 a k x hk hn hc)⟩
/-- one field was written -/
def Up1 (ws ws' : va_W) (a c k : Nat) (v : Value) : Prop := (∀ (a' c' k' : Nat) (v' : Value), fld ws a' c' k' v' → (a' ≠ a ∨ c' ≠ c ∨ k' ≠ k) → fld ws' a' c' k' v') ∧ (∀ (a' : Nat) (x : ClassId × vp_A), cel ws a' x → cel ws' a' x) ∧ fld ws' a c k v
theorem up1_set {ws : va_W} {A : Nat → Prop} {q a c k : Nat} {fs : List Value} {v : Value} (hD : va_D A ws) (hq : ws[q]? = some (a, .inr (c, fs))) (hk : k < fs.length) : Up1 ws (ws.set q (a, .inr (c, fs.set k v))) a c k v := by
  have hl := (List.getElem?_eq_some_iff.mp hq).1
  refine ⟨fun a' c' k' v' ⟨q', fs', g1, g2⟩ hn => ?_, fun a' x ⟨q', g1⟩ => ?_, ⟨q, _, by rw [List.getElem?_set_self hl], by rw [List.getElem?_set_self hk]⟩⟩
  · by_cases hqq : q = q'
    · subst hqq
      have e := Option.some.inj (g1.symm.trans hq)
      have e1 : a' = a := congrArg Prod.fst e
      have e2 : (Sum.inr (c', fs') : va_E) = .inr (c, fs) := congrArg Prod.snd e
      have e3 : (c', fs') = (c, fs) := Sum.inr.inj e2
      have e4 : c' = c := congrArg Prod.fst e3
      have e5 : fs' = fs := congrArg Prod.snd e3
      subst e1; subst e4; subst e5
      have hkk : k ≠ k' := fun z => by
        rcases hn with h | h | h
        · exact h rfl
        · exact h rfl
        · exact h z.symm
      exact ⟨q, _, by rw [List.getElem?_set_self hl], by rw [List.getElem?_set_ne hkk]; exact g2⟩
    · exact ⟨q', fs', by rw [List.getElem?_set_ne hqq]; exact g1, g2⟩
  · have hqq : q ≠ q' := fun z => by
      subst z
      have e := congrArg Prod.snd (Option.some.inj (g1.symm.trans hq))
      cases e
    exact ⟨q', by rw [List.getElem?_set_ne hqq]; exact g1⟩
theorem Sm.up1 {M : List (Nat × Nat)} {MA : List Nat} {κ : tK} {w0 w1 w2 : va_W} {a c k : Nat} {v : Value} (h : Sm M MA κ w0 w1) (u : Up1 w1 w2 a c k v) (hM : (c, k) ∈ M) : Sm M MA κ w0 w2 :=
  ⟨fun a' c' k' v' hf hn => u.1 a' c' k' v' (h.1 a' c' k' v' hf hn) (by
    by_cases h1 : c' = c
    · by_cases h2 : k' = k
      · subst h1; subst h2; exact absurd hM hn
      · exact Or.inr (Or.inr h2)
    · exact Or.inr (Or.inl h1)), fun a' k' x hk hn hc => u.2.1 a' x (h.2 a' k' x hk hn hc)⟩
/-- one array was written -/
def Up2 (ws ws' : va_W) (a : Nat) (x : ClassId × vp_A) : Prop := (∀ (a' c' k' : Nat) (v' : Value), fld ws a' c' k' v' → fld ws' a' c' k' v') ∧ (∀ (a' : Nat) (y : ClassId × vp_A), cel ws a' y → a' ≠ a → cel ws' a' y) ∧ cel ws' a x
theorem up2_set {ws : va_W} {q a : Nat} {x0 x : ClassId × vp_A} (hq : ws[q]? = some (a, .inl x0)) : Up2 ws (ws.set q (a, .inl x)) a x := by
  have hl := (List.getElem?_eq_some_iff.mp hq).1
  refine ⟨fun a' c' k' v' ⟨q', fs', g1, g2⟩ => ?_, fun a' y ⟨q', g1⟩ hn => ?_, ⟨q, by rw [List.getElem?_set_self hl]⟩⟩
  · have hqq : q ≠ q' := fun z => by
      subst z
      have e := congrArg Prod.snd (Option.some.inj (g1.symm.trans hq))
      cases e
    exact ⟨q', fs', by rw [List.getElem?_set_ne hqq]; exact g1, g2⟩
  · have hqq : q ≠ q' := fun z => by
      subst z
      exact hn (congrArg Prod.fst (Option.some.inj (g1.symm.trans hq)))
    exact ⟨q', by rw [List.getElem?_set_ne hqq]; exact g1⟩
theorem Sm.up2 {M : List (Nat × Nat)} {MA : List Nat} {κ : tK} {w0 w1 w2 : va_W} {a k : Nat} {x : ClassId × vp_A} (h : Sm M MA κ w0 w1) (u : Up2 w1 w2 a x) (hk : κ a = some k) (hM : k ∈ MA) : Sm M MA κ w0 w2 :=
  ⟨fun a' c' k' v' hf hn => u.1 a' c' k' v' (h.1 a' c' k' v' hf hn), fun a' k' y hk' hn hc => u.2.1 a' y (h.2 a' k' y hk' hn hc) (fun z => by
    subst z
    have : k' = k := Option.some.inj (hk'.symm.trans hk)
    subst this
    exact hn hM)⟩
/-- the world of a walk: tables, cells, kinds -/
def tW (D : va_G) (tys : List (ClassId × FieldType)) (κ : tK) (B : Nat) (A : Nat → Prop) (s : State) (ws : va_W) (H : Heap) (locs : List Loc) : Prop := va_K D vwCl tys s ∧ va_P D vwCl ws H ∧ va_D A ws ∧ va_S A s.heap H locs ∧ Ty κ tys B ws
/-- one number of an array -/
def elt (ws : va_W) (a j : Nat) (x : Int32) : Prop := ∃ (q : Nat) (cA : ClassId) (n : Nat) (f : Nat → Int32), ws[q]? = some (a, .inl (cA, n, .inl f)) ∧ f j = x
def Up3 (ws ws' : va_W) (a j : Nat) (x : Int32) : Prop := (∀ (a' c' k' : Nat) (v' : Value), fld ws a' c' k' v' → fld ws' a' c' k' v') ∧ (∀ (a' : Nat) (y : ClassId × vp_A), cel ws a' y → a' ≠ a → cel ws' a' y) ∧ (∀ (a' j' : Nat) (y : Int32), elt ws a' j' y → (a' ≠ a ∨ j' ≠ j) → elt ws' a' j' y) ∧ elt ws' a j x
theorem up3_set {ws : va_W} {q a j n : Nat} {cA : ClassId} {f : Nat → Int32} {x : Int32} (hq : ws[q]? = some (a, .inl (cA, n, .inl f))) : Up3 ws (ws.set q (a, .inl (cA, n, .inl (upd f j x)))) a j x := by
  have hl := (List.getElem?_eq_some_iff.mp hq).1
  have u := up2_set (x := (cA, n, .inl (upd f j x))) hq
  refine ⟨u.1, u.2.1, fun a' j' y ⟨q', cA', n', f', g1, g2⟩ hn => ?_, ⟨q, cA, n, upd f j x, by rw [List.getElem?_set_self hl], by simp [upd]⟩⟩
  by_cases hqq : q = q'
  · subst hqq
    have e := Option.some.inj (g1.symm.trans hq)
    have e1 : a' = a := congrArg Prod.fst e
    have e2 := Sum.inl.inj (congrArg Prod.snd e)
    have e3 : (Sum.inl f' : (Nat → Int32) ⊕ (Nat → Int64) ⊕ (Nat → UInt32) ⊕ (Nat → UInt64) ⊕ (Nat → Option Nat)) = .inl f := congrArg (fun z => z.2.2) e2
    have e4 : f' = f := Sum.inl.inj e3
    subst e1; subst e4
    have hj : j' ≠ j := fun z => by
      rcases hn with h | h
      · exact h rfl
      · exact h z
    exact ⟨q, cA, n, upd f' j x, by rw [List.getElem?_set_self hl], by simp [upd, hj]; exact g2⟩
  · exact ⟨q', cA', n', f', by rw [List.getElem?_set_ne hqq]; exact g1, g2⟩
theorem Sm.up3 {M : List (Nat × Nat)} {MA : List Nat} {κ : tK} {w0 w1 w2 : va_W} {a k j : Nat} {x : Int32} (h : Sm M MA κ w0 w1) (u : Up3 w1 w2 a j x) (hk : κ a = some k) (hM : k ∈ MA) : Sm M MA κ w0 w2 :=
  ⟨fun a' c' k' v' hf hn => u.1 a' c' k' v' (h.1 a' c' k' v' hf hn), fun a' k' y hk' hn hc => u.2.1 a' y (h.2 a' k' y hk' hn hc) (fun z => by
    subst z
    have : k' = k := Option.some.inj (hk'.symm.trans hk)
    subst this
    exact hn hM)⟩
theorem clamp_toInt (i : Int32) : i.toNatClampNeg = i.toInt.toNat := rfl
theorem in_of {i : Int32} {n : Nat} (h0 : 0 ≤ i.toInt) (h1 : i.toInt < (n : Int)) : vp_in i n := by
  intro h
  rcases h with h | h
  · rw [fa_lt, show (0 : Int32).toInt = 0 by decide] at h
    omega
  · rw [clamp_toInt] at h
    omega
theorem i32_lo (x : Int32) : -2147483648 ≤ x.toInt := Int32.le_toInt x
theorem i32_hi (x : Int32) : x.toInt ≤ 2147483647 := by have := Int32.toInt_lt x; omega
section TR
variable {p : Program} {l : Launch} {e : Env} {R : Room} {s : State} {m : MethodId} {args : Array Value} {below : List Frame} {meth : Method} {c : Code} {H : Heap} {locs : List Loc} {cells slots : Nat} {Q : State → Prop}
variable {cc : ByteArray} {pc : Nat} {ls : Array Slot} {rest : List Value} {D : va_G} {A : Nat → Prop} {a : Nat} {tys : List (ClassId × FieldType)} {κ : tK} {B : Nat} {ws : va_W}
theorem t_get (hexec : p.tables.exec = Jvm.exec) (hb : c.code = cc) {own ref C : String} {T : u_T} {N ci index : Nat} {Ts : List Cond} (hts : ∀ w ∈ Ts, w.before args s = true) (hin : ∀ w ∈ u_ws C T N, w ∈ Ts) (hown : s.vm.findClass own = some m.cls) (hw : tW D tys κ B A s ws H locs) (hκ : κ a = some ci) (hab : abt ci = 9) (hc : vwCl[ci]? = some (C, T, N)) (hN : nF ci = N) (k : Nat) (hk : k < N) (hlink : (Cond.fieldLink own index ref (T k).2.1 (T k).2.2.1).before args s = true) (hsame : ∀ x, s.fieldFound? (T k).1 (T k).2.1 (T k).2.2.1 = some x → s.fieldFound? ref (T k).2.1 (T k).2.2.1 = some x) (hdg : decode cc pc = .ok (.getfield index, 3))
    (kk : ∀ v : Value, okV κ (ft ci k) v → fld ws a ci k v → W p l e R s m args below meth c H locs cells slots Q (F0 m (pc + 3) ls (v :: rest))) : W p l e R s m args below meth c H locs cells slots Q (F0 m pc ls (.ref a :: rest)) := by
  obtain ⟨hK, hP, hD, hS, hT⟩ := hw
  obtain ⟨q, e0, hq, he⟩ := hT a ci hκ
  obtain ⟨fs, rfl, hlen, hfs⟩ := he.o hab
  have hl : k < fs.length := by omega
  have hv : fs[k]? = some fs[k] := List.getElem?_eq_getElem hl
  exact va_get hexec hb hts hin hown hK hP q hq hc k hk hlink hsame hv hdg (kk _ (hfs k _ hv) ⟨q, fs, hq, hv⟩)
theorem t_geti (hexec : p.tables.exec = Jvm.exec) (hb : c.code = cc) {own ref C : String} {T : u_T} {N ci index : Nat} {Ts : List Cond} (hts : ∀ w ∈ Ts, w.before args s = true) (hin : ∀ w ∈ u_ws C T N, w ∈ Ts) (hown : s.vm.findClass own = some m.cls) (hw : tW D tys κ B A s ws H locs) (hκ : κ a = some ci) (hab : abt ci = 9) (hc : vwCl[ci]? = some (C, T, N)) (hN : nF ci = N) (k : Nat) (hk : k < N) (hlink : (Cond.fieldLink own index ref (T k).2.1 (T k).2.2.1).before args s = true) (hsame : ∀ x, s.fieldFound? (T k).1 (T k).2.1 (T k).2.2.1 = some x → s.fieldFound? ref (T k).2.1 (T k).2.2.1 = some x) (hdg : decode cc pc = .ok (.getfield index, 3)) {lo hi : Int} (ht : ft ci k = (0, lo, hi))
    (kk : ∀ x : Int32, lo ≤ x.toInt → x.toInt ≤ hi → fld ws a ci k (.int x) → W p l e R s m args below meth c H locs cells slots Q (F0 m (pc + 3) ls (.int x :: rest))) : W p l e R s m args below meth c H locs cells slots Q (F0 m pc ls (.ref a :: rest)) :=
  t_get hexec hb hts hin hown hw hκ hab hc hN k hk hlink hsame hdg (fun v hv hf => by
    obtain ⟨x, rfl, h1, h2⟩ := hv.geti ht
    exact kk x h1 h2 hf)
theorem t_getl (hexec : p.tables.exec = Jvm.exec) (hb : c.code = cc) {own ref C : String} {T : u_T} {N ci index : Nat} {Ts : List Cond} (hts : ∀ w ∈ Ts, w.before args s = true) (hin : ∀ w ∈ u_ws C T N, w ∈ Ts) (hown : s.vm.findClass own = some m.cls) (hw : tW D tys κ B A s ws H locs) (hκ : κ a = some ci) (hab : abt ci = 9) (hc : vwCl[ci]? = some (C, T, N)) (hN : nF ci = N) (k : Nat) (hk : k < N) (hlink : (Cond.fieldLink own index ref (T k).2.1 (T k).2.2.1).before args s = true) (hsame : ∀ x, s.fieldFound? (T k).1 (T k).2.1 (T k).2.2.1 = some x → s.fieldFound? ref (T k).2.1 (T k).2.2.1 = some x) (hdg : decode cc pc = .ok (.getfield index, 3)) {lo hi : Int} (ht : ft ci k = (1, lo, hi))
    (kk : ∀ x : Int64, fld ws a ci k (.long x) → W p l e R s m args below meth c H locs cells slots Q (F0 m (pc + 3) ls (.long x :: rest))) : W p l e R s m args below meth c H locs cells slots Q (F0 m pc ls (.ref a :: rest)) :=
  t_get hexec hb hts hin hown hw hκ hab hc hN k hk hlink hsame hdg (fun v hv hf => by
    obtain ⟨x, rfl⟩ := hv.getl ht
    exact kk x hf)
theorem t_getr (hexec : p.tables.exec = Jvm.exec) (hb : c.code = cc) {own ref C : String} {T : u_T} {N ci index : Nat} {Ts : List Cond} (hts : ∀ w ∈ Ts, w.before args s = true) (hin : ∀ w ∈ u_ws C T N, w ∈ Ts) (hown : s.vm.findClass own = some m.cls) (hw : tW D tys κ B A s ws H locs) (hκ : κ a = some ci) (hab : abt ci = 9) (hc : vwCl[ci]? = some (C, T, N)) (hN : nF ci = N) (k : Nat) (hk : k < N) (hlink : (Cond.fieldLink own index ref (T k).2.1 (T k).2.2.1).before args s = true) (hsame : ∀ x, s.fieldFound? (T k).1 (T k).2.1 (T k).2.2.1 = some x → s.fieldFound? ref (T k).2.1 (T k).2.2.1 = some x) (hdg : decode cc pc = .ok (.getfield index, 3)) {k1 : Nat} {hi : Int} (ht : ft ci k = (2, (k1 : Int), hi))
    (kk : ∀ a1 : Nat, κ a1 = some k1 → fld ws a ci k (.ref a1) → W p l e R s m args below meth c H locs cells slots Q (F0 m (pc + 3) ls (.ref a1 :: rest))) : W p l e R s m args below meth c H locs cells slots Q (F0 m pc ls (.ref a :: rest)) :=
  t_get hexec hb hts hin hown hw hκ hab hc hN k hk hlink hsame hdg (fun v hv hf => by
    obtain ⟨x, rfl, h1⟩ := hv.getr ht
    exact kk x h1 hf)
/-- a field whose value is known -/
theorem t_getk (hexec : p.tables.exec = Jvm.exec) (hb : c.code = cc) {own ref C : String} {T : u_T} {N ci index : Nat} {Ts : List Cond} (hts : ∀ w ∈ Ts, w.before args s = true) (hin : ∀ w ∈ u_ws C T N, w ∈ Ts) (hown : s.vm.findClass own = some m.cls) (hw : tW D tys κ B A s ws H locs) (hc : vwCl[ci]? = some (C, T, N)) (k : Nat) (hk : k < N) (hlink : (Cond.fieldLink own index ref (T k).2.1 (T k).2.2.1).before args s = true) (hsame : ∀ x, s.fieldFound? (T k).1 (T k).2.1 (T k).2.2.1 = some x → s.fieldFound? ref (T k).2.1 (T k).2.2.1 = some x) (hdg : decode cc pc = .ok (.getfield index, 3)) {v : Value} (hf : fld ws a ci k v)
    (kk : W p l e R s m args below meth c H locs cells slots Q (F0 m (pc + 3) ls (v :: rest))) : W p l e R s m args below meth c H locs cells slots Q (F0 m pc ls (.ref a :: rest)) := by
  obtain ⟨hK, hP, hD, hS, hT⟩ := hw
  obtain ⟨q, fs, hq, hv⟩ := hf
  exact va_get hexec hb hts hin hown hK hP q hq hc k hk hlink hsame hv hdg kk
theorem t_put (hexec : p.tables.exec = Jvm.exec) (hb : c.code = cc) {own ref C : String} {T : u_T} {N ci index : Nat} {Ts : List Cond} (hts : ∀ w ∈ Ts, w.before args s = true) (hin : ∀ w ∈ u_ws C T N, w ∈ Ts) (ty0 : Nat → FieldType) (hty : ∀ k, k < N → parseFieldDescriptor (T k).2.2.1 = some (ty0 k)) (hnm : ∀ a, a < N → ∀ b, b < N → a ≠ b → (T a).2.1 ≠ (T b).2.1) (hown : s.vm.findClass own = some m.cls) (hw : tW D tys κ B A s ws H locs) (hκ : κ a = some ci) (hab : abt ci = 9) (hc : vwCl[ci]? = some (C, T, N)) (hN : nF ci = N) (k : Nat) (hk : k < N) (hlink : (Cond.fieldLink own index ref (T k).2.1 (T k).2.2.1).before args s = true) (hsame : ∀ x, s.fieldFound? (T k).1 (T k).2.1 (T k).2.2.1 = some x → s.fieldFound? ref (T k).2.1 (T k).2.2.1 = some x) (hfin : (T k).2.2.2 = false) {ty : FieldType} {v : Value} (hd : parseFieldDescriptor (T k).2.2.1 = some ty) (hn : narrow ty v = v) (hfit : fits ty v = true) (hok : okV κ (ft ci k) v) (hdg : decode cc pc = .ok (.putfield index, 3))
    (kk : ∀ (ws1 : va_W) (H1 : Heap) (locs1 : List Loc), tW D tys κ B A s ws1 H1 locs1 → Up1 ws ws1 a ci k v → W p l e R s m args below meth c H1 locs1 cells slots Q (F0 m (pc + 3) ls rest)) : W p l e R s m args below meth c H locs cells slots Q (F0 m pc ls (v :: .ref a :: rest)) := by
  obtain ⟨hK, hP, hD, hS, hT⟩ := hw
  obtain ⟨q, e0, hq, he⟩ := hT a ci hκ
  obtain ⟨fs, rfl, hlen, hfs⟩ := he.o hab
  have hl : k < fs.length := by omega
  refine va_put hexec hb hts hin ty0 hty hnm hown hK hP hD hS q hq hc k hk hlink hsame hfin hd hn hfit hl hdg (fun H1 locs1 hP1 hD1 hS1 => ?_)
  refine kk _ H1 locs1 ⟨hK, hP1, hD1, hS1, hT.set hq hκ (Or.inl ⟨hab, _, rfl, by rw [List.length_set]; exact hlen, fun j v' hv' => ?_⟩)⟩ (up1_set hD hq hl)
  by_cases hj : j = k
  · subst hj
    rw [List.getElem?_set_self hl] at hv'
    cases hv'
    exact hok
  · rw [List.getElem?_set_ne (Ne.symm hj)] at hv'
    exact hfs j v' hv'
theorem t_iald (hexec : p.tables.exec = Jvm.exec) (hb : c.code = cc) (hw : tW D tys κ B A s ws H locs) {k : Nat} (hκ : κ a = some k) (hab : abt k = 0) (hty : aty k = .int) {i : Int32} (h0 : 0 ≤ i.toInt) (h1 : i.toInt < (aln k : Int)) (hdg : decode cc pc = .ok (.iaload, 1))
    (kk : ∀ x : Int32, (aiv B k i.toInt.toNat).1 ≤ x.toInt → x.toInt ≤ (aiv B k i.toInt.toNat).2 → elt ws a i.toInt.toNat x → W p l e R s m args below meth c H locs cells slots Q (F0 m (pc + 1) ls (.int x :: rest))) : W p l e R s m args below meth c H locs cells slots Q (F0 m pc ls (.int i :: .ref a :: rest)) := by
  obtain ⟨hK, hP, hD, hS, hT⟩ := hw
  obtain ⟨q, e0, hq, he⟩ := hT a k hκ
  obtain ⟨cA, t0, f, ht, rfl, hf⟩ := he.i hab
  have hj := hf i.toInt.toNat (by omega)
  exact va_iald hexec hb hK hP q t0 hq (by rw [ht, hty]) (in_of h0 h1) hdg (kk _ hj.1 hj.2 ⟨q, cA, _, f, hq, rfl⟩)
theorem t_bald (hexec : p.tables.exec = Jvm.exec) (hb : c.code = cc) (hw : tW D tys κ B A s ws H locs) {k : Nat} (hκ : κ a = some k) (hab : abt k = 0) (hty : aty k = .byte) {i : Int32} (h0 : 0 ≤ i.toInt) (h1 : i.toInt < (aln k : Int)) (hdg : decode cc pc = .ok (.baload, 1))
    (kk : ∀ x : Int32, (aiv B k i.toInt.toNat).1 ≤ x.toInt → x.toInt ≤ (aiv B k i.toInt.toNat).2 → elt ws a i.toInt.toNat x → W p l e R s m args below meth c H locs cells slots Q (F0 m (pc + 1) ls (.int x :: rest))) : W p l e R s m args below meth c H locs cells slots Q (F0 m pc ls (.int i :: .ref a :: rest)) := by
  obtain ⟨hK, hP, hD, hS, hT⟩ := hw
  obtain ⟨q, e0, hq, he⟩ := hT a k hκ
  obtain ⟨cA, t0, f, ht, rfl, hf⟩ := he.i hab
  have hj := hf i.toInt.toNat (by omega)
  exact va_bald hexec hb hK hP q t0 hq (by rw [ht, hty]) (in_of h0 h1) hdg (kk _ hj.1 hj.2 ⟨q, cA, _, f, hq, rfl⟩)
theorem t_zald (hexec : p.tables.exec = Jvm.exec) (hb : c.code = cc) (hw : tW D tys κ B A s ws H locs) {k : Nat} (hκ : κ a = some k) (hab : abt k = 0) (hty : aty k = .boolean) {i : Int32} (h0 : 0 ≤ i.toInt) (h1 : i.toInt < (aln k : Int)) (hdg : decode cc pc = .ok (.baload, 1))
    (kk : ∀ x : Int32, (aiv B k i.toInt.toNat).1 ≤ x.toInt → x.toInt ≤ (aiv B k i.toInt.toNat).2 → elt ws a i.toInt.toNat x → W p l e R s m args below meth c H locs cells slots Q (F0 m (pc + 1) ls (.int x :: rest))) : W p l e R s m args below meth c H locs cells slots Q (F0 m pc ls (.int i :: .ref a :: rest)) := by
  obtain ⟨hK, hP, hD, hS, hT⟩ := hw
  obtain ⟨q, e0, hq, he⟩ := hT a k hκ
  obtain ⟨cA, t0, f, ht, rfl, hf⟩ := he.i hab
  have hj := hf i.toInt.toNat (by omega)
  exact va_zald hexec hb hK hP q t0 hq (by rw [ht, hty]) (in_of h0 h1) hdg (kk _ hj.1 hj.2 ⟨q, cA, _, f, hq, rfl⟩)
theorem t_lald (hexec : p.tables.exec = Jvm.exec) (hb : c.code = cc) (hw : tW D tys κ B A s ws H locs) {k : Nat} (hκ : κ a = some k) (hab : abt k = 1) (hty : aty k = .long) {i : Int32} (h0 : 0 ≤ i.toInt) (h1 : i.toInt < (aln k : Int)) (hdg : decode cc pc = .ok (.laload, 1))
    (kk : ∀ x : Int64, W p l e R s m args below meth c H locs cells slots Q (F0 m (pc + 1) ls (.long x :: rest))) : W p l e R s m args below meth c H locs cells slots Q (F0 m pc ls (.int i :: .ref a :: rest)) := by
  obtain ⟨hK, hP, hD, hS, hT⟩ := hw
  obtain ⟨q, e0, hq, he⟩ := hT a k hκ
  obtain ⟨cA, t0, f, ht, rfl⟩ := he.l hab
  exact va_lald hexec hb hK hP q t0 hq (by rw [ht, hty]) (in_of h0 h1) hdg (kk _)
theorem t_iast (hexec : p.tables.exec = Jvm.exec) (hb : c.code = cc) (hw : tW D tys κ B A s ws H locs) {k : Nat} (hκ : κ a = some k) (hab : abt k = 0) (hty : aty k = .int) {i x : Int32} (h0 : 0 ≤ i.toInt) (h1 : i.toInt < (aln k : Int)) (hlo : (aiv B k i.toInt.toNat).1 ≤ x.toInt) (hhi : x.toInt ≤ (aiv B k i.toInt.toNat).2) (hdg : decode cc pc = .ok (.iastore, 1))
    (kk : ∀ (ws1 : va_W) (H1 : Heap) (locs1 : List Loc), tW D tys κ B A s ws1 H1 locs1 → Up3 ws ws1 a i.toInt.toNat x → W p l e R s m args below meth c H1 locs1 cells slots Q (F0 m (pc + 1) ls rest)) : W p l e R s m args below meth c H locs cells slots Q (F0 m pc ls (.int x :: .int i :: .ref a :: rest)) := by
  obtain ⟨hK, hP, hD, hS, hT⟩ := hw
  obtain ⟨q, e0, hq, he⟩ := hT a k hκ
  obtain ⟨cA, t0, f, ht, rfl, hf⟩ := he.i hab
  refine va_iast hexec hb hK hP hD hS q t0 hq (by rw [ht, hty]) (in_of h0 h1) hdg (fun H1 locs1 hP1 hD1 hS1 => ?_)
  refine kk _ H1 locs1 ⟨hK, hP1, hD1, hS1, hT.set hq hκ (Or.inr (Or.inl ⟨hab, cA, t0, _, ht, rfl, fun j hj => ?_⟩))⟩ (up3_set hq)
  by_cases hji : j = i.toNatClampNeg
  · subst hji
    simp only [upd, if_true]
    exact ⟨hlo, hhi⟩
  · simp only [upd, hji, if_false]
    exact hf j hj
/-- a byte or a boolean: its kind is without bounds -/
theorem t_bast (hexec : p.tables.exec = Jvm.exec) (hb : c.code = cc) (hw : tW D tys κ B A s ws H locs) {k : Nat} (hκ : κ a = some k) (hab : abt k = 0) (hty : aty k = .byte) {i x : Int32} (h0 : 0 ≤ i.toInt) (h1 : i.toInt < (aln k : Int)) (hfree : ∀ j, aiv B k j = (-2147483648, 2147483647)) (hdg : decode cc pc = .ok (.bastore, 1))
    (kk : ∀ (ws1 : va_W) (H1 : Heap) (locs1 : List Loc), tW D tys κ B A s ws1 H1 locs1 → Up3 ws ws1 a i.toInt.toNat (vp_nar .byte x) → W p l e R s m args below meth c H1 locs1 cells slots Q (F0 m (pc + 1) ls rest)) : W p l e R s m args below meth c H locs cells slots Q (F0 m pc ls (.int x :: .int i :: .ref a :: rest)) := by
  obtain ⟨hK, hP, hD, hS, hT⟩ := hw
  obtain ⟨q, e0, hq, he⟩ := hT a k hκ
  obtain ⟨cA, t0, f, ht, rfl, hf⟩ := he.i hab
  refine va_bast hexec hb hK hP hD hS q t0 hq (by rw [ht, hty]) (in_of h0 h1) hdg (fun H1 locs1 hP1 hD1 hS1 => ?_)
  exact kk _ H1 locs1 ⟨hK, hP1, hD1, hS1, hT.set hq hκ (Or.inr (Or.inl ⟨hab, cA, t0, _, ht, rfl, fun j hj => by rw [hfree]; exact ⟨i32_lo _, i32_hi _⟩⟩))⟩ (up3_set hq)
theorem t_zast (hexec : p.tables.exec = Jvm.exec) (hb : c.code = cc) (hw : tW D tys κ B A s ws H locs) {k : Nat} (hκ : κ a = some k) (hab : abt k = 0) (hty : aty k = .boolean) {i x : Int32} (h0 : 0 ≤ i.toInt) (h1 : i.toInt < (aln k : Int)) (hfree : ∀ j, aiv B k j = (-2147483648, 2147483647)) (hdg : decode cc pc = .ok (.bastore, 1))
    (kk : ∀ (ws1 : va_W) (H1 : Heap) (locs1 : List Loc), tW D tys κ B A s ws1 H1 locs1 → Up3 ws ws1 a i.toInt.toNat (vp_nar .boolean x) → W p l e R s m args below meth c H1 locs1 cells slots Q (F0 m (pc + 1) ls rest)) : W p l e R s m args below meth c H locs cells slots Q (F0 m pc ls (.int x :: .int i :: .ref a :: rest)) := by
  obtain ⟨hK, hP, hD, hS, hT⟩ := hw
  obtain ⟨q, e0, hq, he⟩ := hT a k hκ
  obtain ⟨cA, t0, f, ht, rfl, hf⟩ := he.i hab
  refine va_zast hexec hb hK hP hD hS q t0 hq (by rw [ht, hty]) (in_of h0 h1) hdg (fun H1 locs1 hP1 hD1 hS1 => ?_)
  exact kk _ H1 locs1 ⟨hK, hP1, hD1, hS1, hT.set hq hκ (Or.inr (Or.inl ⟨hab, cA, t0, _, ht, rfl, fun j hj => by rw [hfree]; exact ⟨i32_lo _, i32_hi _⟩⟩))⟩ (up3_set hq)
theorem t_last (hexec : p.tables.exec = Jvm.exec) (hb : c.code = cc) (hw : tW D tys κ B A s ws H locs) {k : Nat} (hκ : κ a = some k) (hab : abt k = 1) (hty : aty k = .long) {i : Int32} {x : Int64} (h0 : 0 ≤ i.toInt) (h1 : i.toInt < (aln k : Int)) (hdg : decode cc pc = .ok (.lastore, 1))
    (kk : ∀ (ws1 : va_W) (H1 : Heap) (locs1 : List Loc) (y : ClassId × vp_A), tW D tys κ B A s ws1 H1 locs1 → Up2 ws ws1 a y → W p l e R s m args below meth c H1 locs1 cells slots Q (F0 m (pc + 1) ls rest)) : W p l e R s m args below meth c H locs cells slots Q (F0 m pc ls (.long x :: .int i :: .ref a :: rest)) := by
  obtain ⟨hK, hP, hD, hS, hT⟩ := hw
  obtain ⟨q, e0, hq, he⟩ := hT a k hκ
  obtain ⟨cA, t0, f, ht, rfl⟩ := he.l hab
  refine va_last hexec hb hK hP hD hS q t0 hq (by rw [ht, hty]) (in_of h0 h1) hdg (fun H1 locs1 hP1 hD1 hS1 => ?_)
  exact kk _ H1 locs1 _ ⟨hK, hP1, hD1, hS1, hT.set hq hκ (Or.inr (Or.inr (Or.inl ⟨hab, cA, t0, _, ht, rfl⟩)))⟩ (up2_set hq)
theorem t_aald (hexec : p.tables.exec = Jvm.exec) (hb : c.code = cc) (hw : tW D tys κ B A s ws H locs) {k : Nat} (hκ : κ a = some k) (hab : abt k = 2) {C : String} (hty : aty k = .object C) {i : Int32} (h0 : 0 ≤ i.toInt) (h1 : i.toInt < (aln k : Int)) (hdg : decode cc pc = .ok (.aaload, 1))
    (kk : ∀ a1 : Nat, κ a1 = some (aek k) → W p l e R s m args below meth c H locs cells slots Q (F0 m (pc + 1) ls (.ref a1 :: rest))) : W p l e R s m args below meth c H locs cells slots Q (F0 m pc ls (.int i :: .ref a :: rest)) := by
  obtain ⟨hK, hP, hD, hS, hT⟩ := hw
  obtain ⟨q, e0, hq, he⟩ := hT a k hκ
  obtain ⟨cA, t0, f, ht, rfl, hf⟩ := he.q hab
  obtain ⟨a1, g1, g2⟩ := hf i.toInt.toNat (by omega)
  refine va_aldq (C := C) hexec hb hK hP q t0 hq (by rw [ht, hty]) (in_of h0 h1) hdg ?_
  rw [clamp_toInt, g1]
  exact kk a1 g2
end TR
/-! ===== numbers as whole numbers ===== -/
theorem ad_i {x y z : Int32} {X Y : Int} (h : z = x + y) (hx : x.toInt = X) (hy : y.toInt = Y) (h1 : -2147483648 ≤ X + Y) (h2 : X + Y ≤ 2147483647) : z.toInt = X + Y := by
  rw [h, Int32.toInt_add, hx, hy]
  exact Int.bmod_eq_of_le (by omega) (by omega)
theorem sb_i {x y z : Int32} {X Y : Int} (h : z = x - y) (hx : x.toInt = X) (hy : y.toInt = Y) (h1 : -2147483648 ≤ X - Y) (h2 : X - Y ≤ 2147483647) : z.toInt = X - Y := by
  rw [h, Int32.toInt_sub, hx, hy]
  exact Int.bmod_eq_of_le (by omega) (by omega)
theorem ml_i {x y z : Int32} {X Y : Int} (h : z = x * y) (hx : x.toInt = X) (hy : y.toInt = Y) (h1 : -2147483648 ≤ X * Y) (h2 : X * Y ≤ 2147483647) : z.toInt = X * Y := by
  rw [h, Int32.toInt_mul, hx, hy]
  exact Int.bmod_eq_of_le (by omega) (by omega)
theorem dv_i {x y z : Int32} {X Y : Int} (h : z = x / y) (hx : x.toInt = X) (hy : y.toInt = Y) (h0 : 0 ≤ X) (h1 : 0 < Y) : z.toInt = X / Y := by
  have hX : X ≤ 2147483647 := by rw [← hx]; exact i32_hi x
  rw [h, Int32.toInt_div, hx, hy, Int.tdiv_eq_ediv_of_nonneg h0]
  have h2 : 0 ≤ X / Y := Int.ediv_nonneg h0 (Int.le_of_lt h1)
  have h3 : X / Y ≤ X := Int.ediv_le_self _ h0
  exact Int.bmod_eq_of_le (by omega) (by omega)
theorem rm_i {x y z : Int32} {X Y : Int} (h : z = x - x / y * y) (hx : x.toInt = X) (hy : y.toInt = Y) (h0 : 0 ≤ X) (h1 : 0 < Y) : z.toInt = X % Y := by
  have hX : X ≤ 2147483647 := by rw [← hx]; exact i32_hi x
  have hd : (x / y).toInt = X / Y := dv_i rfl hx hy h0 h1
  have h2 : 0 ≤ X / Y := Int.ediv_nonneg h0 (Int.le_of_lt h1)
  have h3 : X / Y * Y ≤ X := Int.ediv_mul_le X (Int.ne_of_gt h1)
  have h4 : 0 ≤ X / Y * Y := Int.mul_nonneg h2 (Int.le_of_lt h1)
  have h5 : (x / y * y).toInt = X / Y * Y := ml_i rfl hd hy (by omega) (by omega)
  rw [sb_i h hx h5 (by omega) (by omega)]
  have h7 := Int.emod_def X Y
  have h6 : Y * (X / Y) = X / Y * Y := Int.mul_comm _ _
  omega
theorem mn_i {x y z : Int32} {X Y : Int} (h : z = if y < x then y else x) (hx : x.toInt = X) (hy : y.toInt = Y) : z.toInt ≤ X ∧ z.toInt ≤ Y ∧ (z.toInt = X ∨ z.toInt = Y) := by
  subst hx; subst hy
  by_cases c : y < x
  · rw [if_pos c] at h
    rw [fa_lt] at c
    subst h
    omega
  · rw [if_neg c] at h
    rw [fa_lt] at c
    subst h
    omega
theorem mx_i {x y z : Int32} {X Y : Int} (h : z = if x < y then y else x) (hx : x.toInt = X) (hy : y.toInt = Y) : X ≤ z.toInt ∧ Y ≤ z.toInt ∧ (z.toInt = X ∨ z.toInt = Y) := by
  subst hx; subst hy
  by_cases c : x < y
  · rw [if_pos c] at h
    rw [fa_lt] at c
    subst h
    omega
  · rw [if_neg c] at h
    rw [fa_lt] at c
    subst h
    omega
theorem ne_i {y : Int32} {Y : Int} (hy : y.toInt = Y) (h : 0 < Y) : ¬ y = 0 := fun z => by
  rw [z] at hy
  have : (0 : Int32).toInt = 0 := by decide
  omega
theorem nb_i {x : Int32} (h0 : 0 ≤ x.toInt) (h1 : x.toInt ≤ 1) : narrow .boolean (.int x) = .int x := by
  have h : x = 0 ∨ x = 1 := by
    rcases (by omega : x.toInt = 0 ∨ x.toInt = 1) with q | q
    · exact Or.inl (Int32.toInt_inj.mp (by rw [q]; decide))
    · exact Or.inr (Int32.toInt_inj.mp (by rw [q]; decide))
  rcases h with rfl | rfl <;> rfl
theorem fb_i {x : Int32} (h0 : 0 ≤ x.toInt) (h1 : x.toInt ≤ 1) : fits .boolean (.int x) = true := by
  have h : x = 0 ∨ x = 1 := by
    rcases (by omega : x.toInt = 0 ∨ x.toInt = 1) with q | q
    · exact Or.inl (Int32.toInt_inj.mp (by rw [q]; decide))
    · exact Or.inr (Int32.toInt_inj.mp (by rw [q]; decide))
  rcases h with rfl | rfl <;> rfl
theorem sh_i {k z : Int32} (h : z = 1 <<< (k &&& 31)) (h0 : 0 ≤ k.toInt) (h1 : k.toInt ≤ 6) : 1 ≤ z.toInt ∧ z.toInt ≤ 64 := by
  have e : ∀ n : Int32, k.toInt = n.toInt → k = n := fun n q => Int32.toInt_inj.mp q
  have hk : k = 0 ∨ k = 1 ∨ k = 2 ∨ k = 3 ∨ k = 4 ∨ k = 5 ∨ k = 6 := by
    rcases (by omega : k.toInt = 0 ∨ k.toInt = 1 ∨ k.toInt = 2 ∨ k.toInt = 3 ∨ k.toInt = 4 ∨ k.toInt = 5 ∨ k.toInt = 6) with q | q | q | q | q | q | q
    · exact Or.inl (e 0 (by rw [q]; decide))
    · exact Or.inr (Or.inl (e 1 (by rw [q]; decide)))
    · exact Or.inr (Or.inr (Or.inl (e 2 (by rw [q]; decide))))
    · exact Or.inr (Or.inr (Or.inr (Or.inl (e 3 (by rw [q]; decide)))))
    · exact Or.inr (Or.inr (Or.inr (Or.inr (Or.inl (e 4 (by rw [q]; decide))))))
    · exact Or.inr (Or.inr (Or.inr (Or.inr (Or.inr (Or.inl (e 5 (by rw [q]; decide)))))))
    · exact Or.inr (Or.inr (Or.inr (Or.inr (Or.inr (Or.inr (e 6 (by rw [q]; decide)))))))
  subst h
  rcases hk with rfl | rfl | rfl | rfl | rfl | rfl | rfl <;> decide
/-! ===== a walk's start, loops, calls ===== -/
section TC
variable {p : Program} {l : Launch} {e : Env} {R : Room} {s : State} {m : MethodId} {args : Array Value} {below : List Frame} {meth : Method} {c : Code} {H : Heap} {locs : List Loc} {cells slots : Nat} {Q : State → Prop}
variable {cc : ByteArray} {pc : Nat} {ls : Array Slot} {rest st0 : List Value} {D : va_G} {A : Nat → Prop} {a : Nat} {tys : List (ClassId × FieldType)} {κ : tK} {B : Nat} {ws : va_W}
theorem t_start {g : JFrame} (h : ∀ QQ : State → Prop, QQ = Q → W p l e R s m args below meth c H locs cells slots QQ g) : W p l e R s m args below meth c H locs cells slots Q g := h _ rfl
theorem loopT {st : List Value} (Inv : Nat → Heap → List Loc → Array Slot → Prop)
    (step : ∀ (n : Nat) (H : Heap) (locs : List Loc) (ls : Array Slot), Inv n H locs ls → (∀ (n' : Nat) (H' : Heap) (locs' : List Loc) (ls' : Array Slot), n' < n → Inv n' H' locs' ls' → W p l e R s m args below meth c H' locs' cells slots Q (F0 m pc ls' st)) → W p l e R s m args below meth c H locs cells slots Q (F0 m pc ls st)) :
    ∀ (n : Nat) (H : Heap) (locs : List Loc) (ls : Array Slot), Inv n H locs ls → W p l e R s m args below meth c H locs cells slots Q (F0 m pc ls st) := by
  intro n
  induction n using Nat.strongRecOn with
  | ind n ih => exact fun H locs ls h => step n H locs ls h (fun n' H' locs' ls' hlt hI => ih n' hlt H' locs' ls' hI)
theorem tW.free (hw : tW D tys κ B A s ws H locs) (hA : ∀ q, s.heap.size ≤ q → A q) : ∀ q, va_A ws H.size q → A q := by
  intro q h
  rcases h with ⟨k, x, h⟩ | h
  · exact hw.2.2.1.2 k (q, x) h
  · exact hA q (Nat.le_trans hw.2.2.2.1.1 h)
theorem t_recv (hw : tW D tys κ B A s ws H locs) {ci : Nat} {q : vw_C} (hκ : κ a = some ci) (hab : abt ci = 9) (hc : vwCl[ci]? = some q) : ∃ cell : Cell, H[a]? = some cell ∧ cell.vm.isStatics = false ∧ s.vm.findClass q.1 = some cell.cls := by
  obtain ⟨k, x, hq, he⟩ := hw.2.2.2.2 a ci hκ
  obtain ⟨fs, rfl, -, -⟩ := he.o hab
  exact va_recv hw.1 hw.2.1 hc hq
theorem t_calli {B' : Nat} {mc ms : Nat} {a : Array Value} {post : Int32 → va_W → Prop} (hr : va_Run p l e R s m args below meth c H locs cells slots mc ms (F0 m pc ls st0) rest (va_Qi post (fun w t => cPost D tys w (va_A ws H.size) t) (va_A ws H.size) a) (va_A ws H.size)) (hw : tW D tys κ B A s ws H locs) (hA : ∀ q, s.heap.size ≤ q → A q) (hT : ∀ r w, post r w → Ty κ tys B' w)
    (kk : ∀ (r : Int32) (w : va_W) (H1 : Heap) (locs1 : List Loc), post r w → tW D tys κ B' A s w H1 locs1 → W p l e R s m args below meth c H1 locs1 (cells + mc) (slots + ms) Q (F0 m (pc + 3) ls (.int r :: rest))) : W p l e R s m args below meth c H locs cells slots Q (F0 m pc ls st0) :=
  va_calli hr hw.2.2.2.1 (fun q _ h => hw.free hA q h) (hw.free hA) (fun r w t H1 locs1 ht _ hp hB _ _ hS1 => kk r w H1 locs1 hp ⟨hw.1, by rw [← ht]; exact hB.1, hB.2.2.weaken (fun _ _ _ h => hw.free hA _ h), hS1, hT r w hp⟩)
theorem t_calll {B' : Nat} {mc ms : Nat} {a : Array Value} {post : Int64 → va_W → Prop} (hr : va_Run p l e R s m args below meth c H locs cells slots mc ms (F0 m pc ls st0) rest (va_Ql post (fun w t => cPost D tys w (va_A ws H.size) t) (va_A ws H.size) a) (va_A ws H.size)) (hw : tW D tys κ B A s ws H locs) (hA : ∀ q, s.heap.size ≤ q → A q) (hT : ∀ r w, post r w → Ty κ tys B' w)
    (kk : ∀ (r : Int64) (w : va_W) (H1 : Heap) (locs1 : List Loc), post r w → tW D tys κ B' A s w H1 locs1 → W p l e R s m args below meth c H1 locs1 (cells + mc) (slots + ms) Q (F0 m (pc + 3) ls (.long r :: rest))) : W p l e R s m args below meth c H locs cells slots Q (F0 m pc ls st0) :=
  va_calll hr hw.2.2.2.1 (fun q _ h => hw.free hA q h) (hw.free hA) (fun r w t H1 locs1 ht _ hp hB _ _ hS1 => kk r w H1 locs1 hp ⟨hw.1, by rw [← ht]; exact hB.1, hB.2.2.weaken (fun _ _ _ h => hw.free hA _ h), hS1, hT r w hp⟩)
theorem t_callv {B' : Nat} {mc ms : Nat} {a : Array Value} {post : va_W → Prop} (hr : va_Run p l e R s m args below meth c H locs cells slots mc ms (F0 m pc ls st0) rest (va_Qv post (fun w t => cPost D tys w (va_A ws H.size) t) (va_A ws H.size) a) (va_A ws H.size)) (hw : tW D tys κ B A s ws H locs) (hA : ∀ q, s.heap.size ≤ q → A q) (hT : ∀ w, post w → Ty κ tys B' w)
    (kk : ∀ (w : va_W) (H1 : Heap) (locs1 : List Loc), post w → tW D tys κ B' A s w H1 locs1 → W p l e R s m args below meth c H1 locs1 (cells + mc) (slots + ms) Q (F0 m (pc + 3) ls rest)) : W p l e R s m args below meth c H locs cells slots Q (F0 m pc ls st0) :=
  va_callv hr hw.2.2.2.1 (fun q _ h => hw.free hA q h) (hw.free hA) (fun w t H1 locs1 ht _ hp hB _ _ hS1 => kk w H1 locs1 hp ⟨hw.1, by rw [← ht]; exact hB.1, hB.2.2.weaken (fun _ _ _ h => hw.free hA _ h), hS1, hT w hp⟩)
theorem t_alen (hexec : p.tables.exec = Jvm.exec) (hb : c.code = cc) (hw : tW D tys κ B A s ws H locs) {k : Nat} (hκ : κ a = some k) (hab : abt k = 0) {v : Int32} (hv : Int32.ofNat (aln k) = v) (hdg : decode cc pc = .ok (.arraylength, 1))
    (kk : W p l e R s m args below meth c H locs cells slots Q (F0 m (pc + 1) ls (.int v :: rest))) : W p l e R s m args below meth c H locs cells slots Q (F0 m pc ls (.ref a :: rest)) := by
  obtain ⟨hK, hP, hD, hS, hT⟩ := hw
  obtain ⟨q, e0, hq, he⟩ := hT a k hκ
  obtain ⟨cA, t0, f, ht, rfl, hf⟩ := he.i hab
  exact va_alen hexec hb hK hP q t0 hq ht hv hdg kk
theorem t_alenL (hexec : p.tables.exec = Jvm.exec) (hb : c.code = cc) (hw : tW D tys κ B A s ws H locs) {k : Nat} (hκ : κ a = some k) (hab : abt k = 1) {v : Int32} (hv : Int32.ofNat (aln k) = v) (hdg : decode cc pc = .ok (.arraylength, 1))
    (kk : W p l e R s m args below meth c H locs cells slots Q (F0 m (pc + 1) ls (.int v :: rest))) : W p l e R s m args below meth c H locs cells slots Q (F0 m pc ls (.ref a :: rest)) := by
  obtain ⟨hK, hP, hD, hS, hT⟩ := hw
  obtain ⟨q, e0, hq, he⟩ := hT a k hκ
  obtain ⟨cA, t0, f, ht, rfl⟩ := he.l hab
  exact va_alen hexec hb hK hP q t0 hq ht hv hdg kk
end TC
theorem Sm.elt {M : List (Nat × Nat)} {MA : List Nat} {κ : tK} {w0 w1 : va_W} {a k j : Nat} {x : Int32} (h : Sm M MA κ w0 w1) (hk : κ a = some k) (hn : k ∉ MA) (he : elt w0 a j x) : elt w1 a j x := by
  obtain ⟨q, cA, n, f, h1, h2⟩ := he
  obtain ⟨q', h3⟩ := h.2 a k (cA, n, .inl f) hk hn ⟨q, h1⟩
  exact ⟨q', cA, n, f, h3, h2⟩
section TD
variable {p : Program} {l : Launch} {e : Env} {R : Room} {s : State} {m : MethodId} {args : Array Value} {below : List Frame} {meth : Method} {c : Code} {H : Heap} {locs : List Loc} {cells slots : Nat} {Q : State → Prop}
variable {cc : ByteArray} {pc : Nat} {ls : Array Slot} {rest st0 : List Value} {D : va_G} {A : Nat → Prop} {a : Nat} {tys : List (ClassId × FieldType)} {κ : tK} {B : Nat} {ws : va_W}
theorem t_callq {B' : Nat} {mc ms : Nat} {a : Array Value} {post : Option Nat → va_W → Prop} (hr : va_Run p l e R s m args below meth c H locs cells slots mc ms (F0 m pc ls st0) rest (va_Qq post (fun w t => cPost D tys w (va_A ws H.size) t) (va_A ws H.size) a) (va_A ws H.size)) (hw : tW D tys κ B A s ws H locs) (hA : ∀ q, s.heap.size ≤ q → A q) (hT : ∀ r w, post r w → Ty κ tys B' w)
    (kk : ∀ (r : Option Nat) (w : va_W) (H1 : Heap) (locs1 : List Loc), post r w → tW D tys κ B' A s w H1 locs1 → W p l e R s m args below meth c H1 locs1 (cells + mc) (slots + ms) Q (F0 m (pc + 3) ls (va_rf r :: rest))) : W p l e R s m args below meth c H locs cells slots Q (F0 m pc ls st0) :=
  va_callq hr hw.2.2.2.1 (fun q _ h => hw.free hA q h) (hw.free hA) (fun r w t H1 locs1 ht _ hp hB _ _ hS1 => kk r w H1 locs1 hp ⟨hw.1, by rw [← ht]; exact hB.1, hB.2.2.weaken (fun _ _ _ h => hw.free hA _ h), hS1, hT r w hp⟩)
/-- System.arraycopy of whole starts, of kinds with the same bounds -/
theorem t_copyi (hexec : p.tables.exec = Jvm.exec) (hb : c.code = cc) (hml : c.maxLocals = ls.size) {own : String} {index : Nat} (hown : s.vm.findClass own = some m.cls) (hlink : (Cond.methodLink own index arraycopyName).before args s = true) (hnat : (Cond.native arraycopyName).before args s = true) (hstat : (Cond.static arraycopyName).before args s = true) (hini : (Cond.initialized "java/lang/System").before args s = true)
    (hw : tW D tys κ B A s ws H locs) {a0 k0 k1 : Nat} (h0 : κ a0 = some k0) (h1 : κ a = some k1) (hab0 : abt k0 = 0) (hab1 : abt k1 = 0) (ht0 : aty k0 = .int) (ht1 : aty k1 = .int) {n : Int32} (hn : ¬ n < 0) (hn0 : n.toNatClampNeg ≤ aln k0) (hn1 : n.toNatClampNeg ≤ aln k1) (hiv : ∀ j, j < n.toNatClampNeg → aiv B k0 j = aiv B k1 j)
    (hframes : 1 ≤ R.frames) (hlocals : (rest.map fun v => v.category).sum + (nativeFrameWords "java/lang/System" "arraycopy" 5 + 11) ≤ R.locals) (hdg : decode cc pc = .ok (.invokestatic index, 3))
    (kk : ∀ (ws1 : va_W) (H1 : Heap) (locs1 : List Loc) (y : ClassId × vp_A), tW D tys κ B A s ws1 H1 locs1 → Up2 ws ws1 a y → W p l e R s m args below meth c H1 locs1 cells slots Q (F0 m (pc + 3) ls rest)) : W p l e R s m args below meth c H locs cells slots Q (F0 m pc ls (.int n :: .int 0 :: .ref a :: .int 0 :: .ref a0 :: rest)) := by
  obtain ⟨hK, hP, hD, hS, hT⟩ := hw
  obtain ⟨q0, e0, hq0, he0⟩ := hT a0 k0 h0
  obtain ⟨c0, t0, f, hty0, rfl, hf⟩ := he0.i hab0
  obtain ⟨q1, e1, hq1, he1⟩ := hT a k1 h1
  obtain ⟨c1, t1, g, hty1, rfl, hg⟩ := he1.i hab1
  have z0 : (0 : Int32).toNatClampNeg = 0 := by decide
  refine va_copyi hexec hb hml hown hlink hnat hstat hini hK hP hD hS q0 q1 t0 t1 hq0 hq1 (ty := .int) (by rw [hty0, ht0]) (by rw [hty1, ht1]) rfl (by decide) (by decide) hn (by rw [z0]; omega) (by rw [z0]; omega) (fun _ _ => rfl) hframes hlocals hdg (fun H1 locs1 hP1 hD1 hS1 => ?_)
  refine kk _ H1 locs1 _ ⟨hK, hP1, hD1, hS1, hT.set hq1 h1 (Or.inr (Or.inl ⟨hab1, c1, t1, _, hty1, rfl, fun j hj => ?_⟩))⟩ (up2_set hq1)
  rw [z0]
  simp only [va_cpy]
  by_cases hc : 0 ≤ j ∧ j < 0 + n.toNatClampNeg
  · rw [if_pos hc, ← hiv j (by omega)]
    have := hf (0 + (j - 0)) (by omega)
    rw [show 0 + (j - 0) = j by omega] at this
    rw [show 0 + (j - 0) = j by omega]
    exact this
  · rw [if_neg hc]
    exact hg j hj
theorem t_aaldn (hexec : p.tables.exec = Jvm.exec) (hb : c.code = cc) (hw : tW D tys κ B A s ws H locs) {k : Nat} (hκ : κ a = some k) (hab : abt k = 3) {C : String} (hty : aty k = .object C) {i : Int32} (h0 : 0 ≤ i.toInt) (h1 : i.toInt < (aln k : Int)) (hdg : decode cc pc = .ok (.aaload, 1))
    (kk : ∀ o : Option Nat, (∀ q : Nat, o = some q → κ q = some (aek k)) → W p l e R s m args below meth c H locs cells slots Q (F0 m (pc + 1) ls (va_rf o :: rest))) : W p l e R s m args below meth c H locs cells slots Q (F0 m pc ls (.int i :: .ref a :: rest)) := by
  obtain ⟨hK, hP, hD, hS, hT⟩ := hw
  obtain ⟨q, e0, hq, he⟩ := hT a k hκ
  obtain ⟨cA, t0, f, ht, rfl, hf⟩ := he.n hab
  exact va_aldq (C := C) hexec hb hK hP q t0 hq (by rw [ht, hty]) (in_of h0 h1) hdg (kk _ (fun z hz => hf i.toInt.toNat (by omega) z hz))
theorem t_aastn (hexec : p.tables.exec = Jvm.exec) (hb : c.code = cc) (hw : tW D tys κ B A s ws H locs) {k : Nat} (hκ : κ a = some k) (hab : abt k = 3) {ci : Nat} {r : vw_C} (hty : aty k = .object r.1) {i : Int32} {v : Nat} (hv : κ v = some ci) (hci : abt ci = 9) (hc : vwCl[ci]? = some r) (hek : aek k = ci) (h0 : 0 ≤ i.toInt) (h1 : i.toInt < (aln k : Int)) (hdg : decode cc pc = .ok (.aastore, 1))
    (kk : ∀ (ws1 : va_W) (H1 : Heap) (locs1 : List Loc) (y : ClassId × vp_A), tW D tys κ B A s ws1 H1 locs1 → Up2 ws ws1 a y → W p l e R s m args below meth c H1 locs1 cells slots Q (F0 m (pc + 1) ls rest)) : W p l e R s m args below meth c H locs cells slots Q (F0 m pc ls (.ref v :: .int i :: .ref a :: rest)) := by
  obtain ⟨hK, hP, hD, hS, hT⟩ := hw
  obtain ⟨q, e0, hq, he⟩ := hT a k hκ
  obtain ⟨cA, t0, f, ht, rfl, hf⟩ := he.n hab
  obtain ⟨qv, ev, hqv, hev⟩ := hT v ci hv
  obtain ⟨vs, rfl, -, -⟩ := hev.o hci
  refine va_astq hexec hb hK hP hD hS q t0 qv ci (r := r) hq (by rw [ht, hty]) hqv hc (in_of h0 h1) hdg (fun H1 locs1 hP1 hD1 hS1 => ?_)
  refine kk _ H1 locs1 _ ⟨hK, hP1, hD1, hS1, hT.set hq hκ (Or.inr (Or.inr (Or.inr (Or.inr ⟨hab, cA, t0, _, ht, rfl, fun j hj z hz => ?_⟩))))⟩ (up2_set hq)
  simp only [va_up] at hz
  by_cases hji : j = i.toNatClampNeg
  · rw [if_pos hji] at hz
    cases hz
    rw [hek]
    exact hv
  · rw [if_neg hji] at hz
    exact hf j hj z hz
end TD
theorem Up1.elt {w1 w2 : va_W} {a c k a' j : Nat} {v : Value} {x : Int32} (u : Up1 w1 w2 a c k v) (h : elt w1 a' j x) : elt w2 a' j x := by
  obtain ⟨q, cA, n, f, h1, h2⟩ := h
  obtain ⟨q', h3⟩ := u.2.1 a' (cA, n, .inl f) ⟨q, h1⟩
  exact ⟨q', cA, n, f, h3, h2⟩
/-- a field's value can always be named -/
theorem t_peek {κ : tK} {tys : List (ClassId × FieldType)} {B : Nat} {ws : va_W} (hT : Ty κ tys B ws) {a ci k : Nat} (hκ : κ a = some ci) (hab : abt ci = 9) (hk : k < nF ci) : ∃ v : Value, okV κ (ft ci k) v ∧ fld ws a ci k v := by
  obtain ⟨q, e0, hq, he⟩ := hT a ci hκ
  obtain ⟨fs, rfl, hlen, hfs⟩ := he.o hab
  have hl : k < fs.length := by omega
  have hv : fs[k]? = some fs[k] := List.getElem?_eq_getElem hl
  exact ⟨_, hfs k _ hv, q, fs, hq, hv⟩
theorem Up1.same {w1 w2 : va_W} {a c k a' : Nat} {v : Value} (u : Up1 w1 w2 a c k v) (h : fld w1 a' c k v) : fld w2 a' c k v := by
  by_cases ha : a' = a
  · subst ha
    exact u.2.2
  · exact u.1 _ _ _ _ h (Or.inl ha)
theorem lgc {x y : Int64} {v : Int32} (e : v = lg_cmp x y) : (v.toInt < 0 ↔ x.toInt < y.toInt) ∧ (v.toInt = 0 ↔ x.toInt = y.toInt) ∧ (0 < v.toInt ↔ y.toInt < x.toInt) := by
  subst e
  have z0 : (0 : Int32).toInt = 0 := by decide
  have h1 : (lg_cmp x y).toInt < 0 ↔ x.toInt < y.toInt := by rw [← z0, ← fa_lt, lg_cmp_lt, Int64.lt_iff_toInt_lt]
  have h2 : 0 < (lg_cmp x y).toInt ↔ y.toInt < x.toInt := by rw [← z0, ← fa_lt, lg_cmp_gt, Int64.lt_iff_toInt_lt]
  exact ⟨h1, by omega, h2⟩
theorem ne_k {κ : tK} {a b k1 k2 : Nat} (h1 : κ a = some k1) (h2 : κ b = some k2) (h : k1 ≠ k2) : a ≠ b := fun z => h (by rw [z, h2] at h1; exact (Option.some.inj h1).symm)
theorem Up2.elt {w1 w2 : va_W} {a a' j : Nat} {y : ClassId × vp_A} {x : Int32} (u : Up2 w1 w2 a y) (h : elt w1 a' j x) (hn : a' ≠ a) : elt w2 a' j x := by
  obtain ⟨q, cA, n, f, h1, h2⟩ := h
  obtain ⟨q', h3⟩ := u.2.1 a' (cA, n, .inl f) ⟨q, h1⟩ hn
  exact ⟨q', cA, n, f, h3, h2⟩
theorem and_n {x y : Int32} (h0 : 0 ≤ x.toInt) : 0 ≤ (x &&& y).toInt ∧ (x &&& y).toInt ≤ x.toInt := by
  have hx : x.toInt = (x.toBitVec.toNat : Int) := by
    have hc := BitVec.toInt_eq_toNat_cond x.toBitVec
    rw [show x.toInt = x.toBitVec.toInt from rfl] at h0 ⊢
    have hl := x.toBitVec.isLt
    by_cases hq : 2 * x.toBitVec.toNat < 2 ^ 32
    · rw [if_pos hq] at hc; exact hc
    · rw [if_neg hq] at hc; omega
  have hn : (x &&& y).toBitVec.toNat ≤ x.toBitVec.toNat := by
    rw [Int32.toBitVec_and, BitVec.toNat_and]
    exact Nat.and_le_left
  have hz : (x &&& y).toInt = ((x &&& y).toBitVec.toNat : Int) := by
    have hb := i32_hi x
    rw [show (x &&& y).toInt = (x &&& y).toBitVec.toInt from rfl, BitVec.toInt_eq_toNat_cond]
    split <;> omega
  omega
theorem and_l {x y z : Int32} {X : Int} (h : z = x &&& y) (hx : x.toInt = X) (h0 : 0 ≤ X) : 0 ≤ z.toInt ∧ z.toInt ≤ X := by
  subst h; subst hx
  exact and_n h0
theorem and_r {x y z : Int32} {Y : Int} (h : z = x &&& y) (hy : y.toInt = Y) (h0 : 0 ≤ Y) : 0 ≤ z.toInt ∧ z.toInt ≤ Y := by
  subst h; subst hy
  rw [Int32.and_comm]
  exact and_n h0
section TK
variable {p : Program} {l : Launch} {e : Env} {R : Room} {s : State} {m : MethodId} {args : Array Value} {below : List Frame} {meth : Method} {c : Code} {H : Heap} {locs : List Loc} {cells slots : Nat} {Q : State → Prop}
variable {cc : ByteArray} {pc : Nat} {ls : Array Slot} {rest : List Value} {D : va_G} {A : Nat → Prop} {a : Nat} {tys : List (ClassId × FieldType)} {κ : tK} {B : Nat} {ws : va_W}
theorem t_ialdk (hexec : p.tables.exec = Jvm.exec) (hb : c.code = cc) (hw : tW D tys κ B A s ws H locs) {k : Nat} (hκ : κ a = some k) (hab : abt k = 0) (hty : aty k = .int) {i x : Int32} (h0 : 0 ≤ i.toInt) (h1 : i.toInt < (aln k : Int)) (he : elt ws a i.toInt.toNat x) (hdg : decode cc pc = .ok (.iaload, 1))
    (kk : W p l e R s m args below meth c H locs cells slots Q (F0 m (pc + 1) ls (.int x :: rest))) : W p l e R s m args below meth c H locs cells slots Q (F0 m pc ls (.int i :: .ref a :: rest)) := by
  refine t_iald hexec hb hw hκ hab hty h0 h1 hdg (fun y _ _ hy => ?_)
  obtain ⟨q, cA, n, f, g1, g2⟩ := he
  obtain ⟨q', cA', n', f', g3, g4⟩ := hy
  have hq : q = q' := hw.2.2.1.1 q q' _ _ g1 g3 rfl
  subst hq
  have e := Option.some.inj (g1.symm.trans g3)
  have e2 := Sum.inl.inj (congrArg Prod.snd e)
  have e3 : (Sum.inl f : (Nat → Int32) ⊕ (Nat → Int64) ⊕ (Nat → UInt32) ⊕ (Nat → UInt64) ⊕ (Nat → Option Nat)) = .inl f' := congrArg (fun z => z.2.2) e2
  have e4 : f = f' := Sum.inl.inj e3
  rw [← g4, ← e4, g2]
  exact kk
end TK
/-! ===== how many of the first six bits ===== -/
def c6 (s : Int32) : Nat := s.toInt.toNat % 2 + s.toInt.toNat / 2 % 2 + s.toInt.toNat / 4 % 2 + s.toInt.toNat / 8 % 2 + s.toInt.toNat / 16 % 2 + s.toInt.toNat / 32 % 2
theorem c6_le (s : Int32) : c6 s ≤ 6 := by unfold c6; omega
theorem c6_all : ∀ j : Nat, j < 64 → ∀ i : Nat, i < 6 → ((nI j >>> (nI i &&& 31)) &&& 1).toInt = 1 → c6 (nI j &&& ((1 <<< (nI i &&& 31)) ^^^ (-1))) + 1 ≤ c6 (nI j) ∧ 0 ≤ (nI j &&& ((1 <<< (nI i &&& 31)) ^^^ (-1))).toInt ∧ (nI j &&& ((1 <<< (nI i &&& 31)) ^^^ (-1))).toInt ≤ 63 := by decide +kernel
theorem nI_back {x : Int32} (h : 0 ≤ x.toInt) : nI x.toInt.toNat = x := by
  have h1 := i32_hi x
  apply Int32.toInt_inj.mp
  rw [nI_toInt (by omega)]
  omega
theorem c6_clear {s f b sh m x r : Int32} (e1 : sh = s >>> (f &&& 31)) (e2 : b = sh &&& 1) (hb : b.toInt = 1) (e3 : x = 1 <<< (f &&& 31)) (e4 : m = x ^^^ (-1)) (e5 : r = s &&& m) (h0 : 0 ≤ f.toInt) (h1 : f.toInt ≤ 5) (g0 : 0 ≤ s.toInt) (g1 : s.toInt ≤ 63) : c6 r + 1 ≤ c6 s ∧ 0 ≤ r.toInt ∧ r.toInt ≤ 63 := by
  have h := c6_all s.toInt.toNat (by omega) f.toInt.toNat (by omega)
  rw [nI_back h0, nI_back g0] at h
  subst e1; subst e2; subst e3; subst e4; subst e5
  exact h hb
/-! ===== bounds of the reference's state, by places ===== -/
theorem ivS_free {D : Int} {j : Nat} (h1 : 12 ≤ j) (h2 : j ≤ 284) : ivS D j = (-2147483648, 2147483647) := by
  unfold ivS
  rw [if_neg (by omega), if_neg (by omega), if_neg (by omega), if_neg (by omega), if_neg (by omega), if_neg (by omega), if_neg (by omega), if_neg (by omega)]
theorem ivS_ne {D D' : Int} {j : Nat} (h : j ≠ 10) : ivS D j = ivS D' j := by
  unfold ivS
  rw [if_neg (c := j = 10) h, if_neg (c := j = 10) h]
theorem ivS_10 (D : Int) : ivS D 10 = (0, D) := rfl
theorem ivS_mono {j : Nat} {x : Int} (h1 : (ivS 999 j).1 ≤ x) (h2 : x ≤ (ivS 999 j).2) : (ivS 1999 j).1 ≤ x ∧ x ≤ (ivS 1999 j).2 := by
  by_cases h : j = 10
  · subst h
    rw [ivS_10] at h1 h2 ⊢
    exact ⟨h1, by simp only at h2 ⊢; omega⟩
  · rw [ivS_ne (D := 1999) (D' := 999) h]
    exact ⟨h1, h2⟩
theorem ivS_down {j : Nat} {x : Int} (h1 : (ivS 1999 j).1 ≤ x) (h2 : x ≤ (ivS 1999 j).2) (h3 : j = 10 → x ≤ 999) : (ivS 999 j).1 ≤ x ∧ x ≤ (ivS 999 j).2 := by
  by_cases h : j = 10
  · subst h
    rw [ivS_10] at h1 ⊢
    exact ⟨h1, h3 rfl⟩
  · rw [ivS_ne (D := 999) (D' := 1999) h]
    exact ⟨h1, h2⟩
theorem ivR_0 (j : Nat) : (ivR j).1 ≤ 0 ∧ 0 ≤ (ivR j).2 := by
  unfold ivR
  repeat' split
  all_goals decide
theorem ivR_S {j : Nat} {x : Int} (hj : j < 285) (h1 : (ivR j).1 ≤ x) (h2 : x ≤ (ivR j).2) (hx : -2147483648 ≤ x ∧ x ≤ 2147483647) : (ivS 1999 j).1 ≤ x ∧ x ≤ (ivS 1999 j).2 := by
  unfold ivR at h1 h2
  unfold ivS
  by_cases c0 : j = 0
  · rw [if_pos c0] at h1 h2 ⊢; exact ⟨h1, h2⟩
  rw [if_neg c0] at h1 h2 ⊢
  by_cases c3 : j = 3
  · rw [if_pos c3] at h1 h2 ⊢; exact ⟨h1, h2⟩
  rw [if_neg c3] at h1 h2 ⊢
  by_cases c4 : j = 4
  · rw [if_pos c4] at h1 h2 ⊢; exact ⟨h1, h2⟩
  rw [if_neg c4] at h1 h2 ⊢
  by_cases c5 : j = 5
  · rw [if_pos c5] at h1 h2 ⊢; exact ⟨h1, h2⟩
  rw [if_neg c5] at h1 h2 ⊢
  by_cases c10 : j = 10
  · rw [if_pos (Or.inl c10)] at h1 h2; rw [if_pos c10]; simp only at h1 h2 ⊢; omega
  rw [if_neg c10]
  by_cases c11 : j = 11
  · rw [if_pos (Or.inr c11)] at h1 h2; rw [if_pos c11]; simp only at h1 h2 ⊢; omega
  rw [if_neg c11, if_neg (by omega), if_neg (by omega)]
  exact hx
theorem ivS_note {D : Int} {i : Nat} (h : i < 10) : ivS D (285 + 2 * i) = (0, 60) := by
  unfold ivS
  rw [if_neg (by omega), if_neg (by omega), if_neg (by omega), if_neg (by omega), if_neg (by omega), if_neg (by omega), if_neg (by omega), if_pos (by omega)]
theorem ivS_note1 {D : Int} {i : Nat} (h : i < 10) : ivS D (286 + 2 * i) = (-2147483648, 2147483647) := by
  unfold ivS
  rw [if_neg (by omega), if_neg (by omega), if_neg (by omega), if_neg (by omega), if_neg (by omega), if_neg (by omega), if_neg (by omega), if_neg (by omega)]
theorem elt_eq {A : Nat → Prop} {ws : va_W} {a j : Nat} {x y : Int32} (hD : va_D A ws) (h1 : elt ws a j x) (h2 : elt ws a j y) : x = y := by
  obtain ⟨q, cA, n, f, g1, g2⟩ := h1
  obtain ⟨q', cA', n', f', g3, g4⟩ := h2
  have hq : q = q' := hD.1 q q' _ _ g1 g3 rfl
  subst hq
  have e := Option.some.inj (g1.symm.trans g3)
  have e2 := Sum.inl.inj (congrArg Prod.snd e)
  have e3 : (Sum.inl f : (Nat → Int32) ⊕ (Nat → Int64) ⊕ (Nat → UInt32) ⊕ (Nat → UInt64) ⊕ (Nat → Option Nat)) = .inl f' := congrArg (fun z => z.2.2) e2
  have e4 : f = f' := Sum.inl.inj e3
  rw [← g2, ← g4, e4]
theorem lnz_i {y : Int64} {Y : Int} (h : y.toInt = Y) (h0 : Y ≠ 0) : ¬ y = 0 := fun z => by
  rw [z] at h
  exact h0 (h.symm.trans (by decide))
theorem bit_dec {x y z : Int32} (h : y = x - 1) (h2 : z = x &&& y) (h0 : ¬ x.toInt = 0) : z.toBitVec.toNat < x.toBitVec.toNat := by
  have hx : x.toBitVec.toNat ≠ 0 := fun q => h0 (by
    rw [show x.toInt = x.toBitVec.toInt from rfl, BitVec.toInt_eq_toNat_cond, q]
    decide)
  have hy : y.toBitVec.toNat = x.toBitVec.toNat - 1 := by
    rw [h, Int32.toBitVec_sub, BitVec.toNat_sub]
    have hl := x.toBitVec.isLt
    have h1 : (1 : Int32).toBitVec.toNat = 1 := by decide
    rw [h1]
    omega
  rw [h2, Int32.toBitVec_and, BitVec.toNat_and]
  have := Nat.and_le_right (n := x.toBitVec.toNat) (m := y.toBitVec.toNat)
  omega
theorem t_peeke {κ : tK} {tys : List (ClassId × FieldType)} {B : Nat} {ws : va_W} (hT : Ty κ tys B ws) {a k : Nat} {i : Int32} (hκ : κ a = some k) (hab : abt k = 0) (hi : i.toInt.toNat < aln k) : ∃ x : Int32, (aiv B k i.toInt.toNat).1 ≤ x.toInt ∧ x.toInt ≤ (aiv B k i.toInt.toNat).2 ∧ elt ws a i.toInt.toNat x := by
  obtain ⟨q, e0, hq, he⟩ := hT a k hκ
  obtain ⟨cA, t0, f, ht, rfl, hf⟩ := he.i hab
  exact ⟨f i.toInt.toNat, (hf _ hi).1, (hf _ hi).2, q, cA, _, f, hq, rfl⟩
/-- while numbers are laid back from kept ones: DAY is not yet written (k ≤ n), or it is at most 999 -/
def dayOk (ws : va_W) (a : Nat) (k : Int32) (n : Int) : Prop := k.toInt ≤ n ∨ ∃ d : Int32, elt ws a (10 : Int32).toInt.toNat d ∧ 0 ≤ d.toInt ∧ d.toInt ≤ 999
theorem fr_63 {B j : Nat} (h1 : 12 ≤ j) (h2 : j ≤ 284) : aiv B 63 j = (-2147483648, 2147483647) := by rw [aiv_said]; exact ivS_free h1 h2
theorem fr_59 {B j : Nat} (h1 : 12 ≤ j ∨ j = 1 ∨ j = 2) (h2 : j ≤ 284) : aiv B 59 j = (-2147483648, 2147483647) := by
  rw [aiv_read]
  unfold ivR
  rw [if_neg (by omega), if_neg (by omega), if_neg (by omega), if_neg (by omega), if_neg (by omega)]
