/-! ===== constructors: cells that have no kind yet ===== -/
def cAt (w : va_W) (a : Nat) (e : va_E) : Prop := ∃ q : Nat, w[q]? = some (a, e)
theorem cAt.app {w w1 : va_W} {a : Nat} {e : va_E} (h : cAt w a e) : cAt (w ++ w1) a e := by
  obtain ⟨q, h1⟩ := h
  exact ⟨q, by rw [List.getElem?_append_left (List.getElem?_eq_some_iff.mp h1).1]; exact h1⟩
theorem cAt_last {w : va_W} {a : Nat} {e : va_E} : cAt (w ++ [(a, e)]) a e := ⟨w.length, by rw [List.getElem?_append_right (Nat.le_refl _), Nat.sub_self]; rfl⟩
theorem cAt.fld {w : va_W} {a c k : Nat} {fs : List Value} {v : Value} (h : cAt w a (.inr (c, fs))) (hk : fs[k]? = some v) : fld w a c k v := by
  obtain ⟨q, h1⟩ := h
  exact ⟨q, fs, h1, hk⟩
theorem cAt.arr {w : va_W} {a n : Nat} {cA : ClassId} {f : Nat → Int32} (h : cAt w a (.inl (cA, n, .inl f))) : arr w a f := by
  obtain ⟨q, h1⟩ := h
  exact ⟨q, cA, n, h1⟩
def Gr (κ κ' : tK) (w w' : va_W) (x : Nat) : Prop := Ext κ κ' ∧ ∀ (a : Nat) (e : va_E), a ≠ x → cAt w a e → cAt w' a e ∧ (κ a = none → κ' a = none)
section GG
variable {A : Nat → Prop} {κ κ0 κ' : tK} {tys tys' : List (ClassId × FieldType)} {B : Nat} {w w0 w1 w' : va_W} {a v x k : Nat} {e ex : va_E}
theorem Gr.rf : Gr κ κ w w x := ⟨Ext.rf, fun _ _ _ h => ⟨h, id⟩⟩
theorem Gr.app (h : Gr κ κ' w w' x) : Gr κ κ' w (w' ++ w1) x := ⟨h.1, fun a e ha hc => ⟨(h.2 a e ha hc).1.app, (h.2 a e ha hc).2⟩⟩
theorem fr_new (hD : va_D A (w ++ [(v, e)])) : ∀ e' : va_E, ¬ cAt w v e' := fun e' ⟨q, hq⟩ => by
  have hl := (List.getElem?_eq_some_iff.mp hq).1
  have := hD.1 q w.length (v, e') (v, e) (by rw [List.getElem?_append_left hl]; exact hq) (by rw [List.getElem?_append_right (Nat.le_refl _), Nat.sub_self]; rfl) rfl
  omega
theorem Gr.fresh (h : Gr κ κ' w w' x) (hx : cAt w' x ex) (hf : ∀ e : va_E, ¬ cAt w' v e) : ∀ e : va_E, ¬ cAt w v e := fun e hc => by
  by_cases hv : v = x
  · subst hv
    exact hf _ hx
  · exact hf e (h.2 v e hv hc).1
theorem Ty.nn0 (hT : Ty κ tys B w) (hf : ∀ e : va_E, ¬ cAt w v e) : κ v = .none := by
  cases hk : κ v with
  | none => rfl
  | some k =>
    obtain ⟨q, e, h1, -⟩ := hT v k hk
    exact absurd ⟨q, h1⟩ (hf e)
theorem Ty.appT (hT : Ty κ tys B w) (hs : SubT tys tys') : Ty κ tys' B (w ++ w1) := fun a k h => by
  obtain ⟨q, e, h1, h2⟩ := hT a k h
  exact ⟨q, e, by rw [List.getElem?_append_left (List.getElem?_eq_some_iff.mp h1).1]; exact h1, h2.ext Ext.rf hs⟩
/-- a new cell that has its kind at once -/
theorem newA (hT : Ty κ tys B w) (hD : va_D A (w ++ [(v, e)])) (hs : SubT tys tys') (hok : ∀ κ1 : tK, okE κ1 tys' B k e) : ∃ κ' : tK, Ty κ' tys' B (w ++ [(v, e)]) ∧ Ext κ κ' ∧ κ' v = some k ∧ (∀ (a : Nat) (e' : va_E), cAt w a e' → κ' a = κ a) := by
  have hn := hT.nn0 (fr_new hD)
  refine ⟨kap κ [(v, k)], Ty.grow hT hs (fun p hp => ?_) (fun p hp => ?_), kap_ext (fun p hp => ?_), by simp [kap], fun a e' hc => ?_⟩
  · rw [List.mem_singleton.mp hp]; exact hn
  · rw [List.mem_singleton.mp hp]; exact ⟨0, e, rfl, hok _⟩
  · rw [List.mem_singleton.mp hp]; exact hn
  · have ha : a ≠ v := fun z => by
      subst z
      exact fr_new hD e' hc
    simp [kap, ha]
theorem Gr.newA (h : Gr κ0 κ w0 w x) (hx : Ext κ κ') (hno : ∀ (a : Nat) (e' : va_E), cAt w a e' → κ' a = κ a) : Gr κ0 κ' w0 (w ++ w1) x := ⟨h.1.trans hx, fun a e ha hc => ⟨(h.2 a e ha hc).1.app, fun hn => by rw [hno a e (h.2 a e ha hc).1]; exact (h.2 a e ha hc).2 hn⟩⟩
/-- a cell gets its kind -/
theorem typeO (hT : Ty κ tys B w) (hn : κ a = none) (hc : cAt w a e) (hok : okE (kap κ [(a, k)]) tys B k e) : Ty (kap κ [(a, k)]) tys B w := by
  intro b k' h
  rcases kap_cases h with q | q
  · have := List.mem_singleton.mp q
    cases this
    obtain ⟨i, hi⟩ := hc
    exact ⟨i, e, hi, hok⟩
  · obtain ⟨i, e', h1, h2⟩ := hT b k' q
    exact ⟨i, e', h1, h2.ext (kap_ext (fun p hp => by rw [List.mem_singleton.mp hp]; exact hn)) SubT.rf⟩
theorem typeE (hn : κ a = none) : Ext κ (kap κ [(a, k)]) := kap_ext (fun p hp => by rw [List.mem_singleton.mp hp]; exact hn)
theorem typeK : kap κ [(a, k)] a = some k := by simp [kap]
theorem typeN (h : κ x = none) (hn : x ≠ a) : kap κ [(a, k)] x = none := by simp [kap, hn]; exact h
theorem Gr.typ (h : Gr κ0 κ w0 w a) (hn : κ a = none) : Gr κ0 (kap κ [(a, k)]) w0 w a := ⟨h.1.trans (typeE hn), fun b e hb hc => ⟨(h.2 b e hb hc).1, fun q => typeN ((h.2 b e hb hc).2 q) hb⟩⟩
/-- another cell, that was not there at the start, gets its kind -/
theorem Gr.typz (h : Gr κ0 κ w0 w x) (hn : κ a = none) (hz : ∀ e : va_E, ¬ cAt w0 a e) : Gr κ0 (kap κ [(a, k)]) w0 w x := ⟨h.1.trans (typeE hn), fun b e hb hc => ⟨(h.2 b e hb hc).1, fun q => typeN ((h.2 b e hb hc).2 q) (fun z => by subst z; exact hz e hc)⟩⟩
theorem Gr.call (h : Gr κ0 κ w0 w x) (h1 : Gr κ κ' w w' v) (hz : ∀ e : va_E, ¬ cAt w0 v e) : Gr κ0 κ' w0 w' x := ⟨h.1.trans h1.1, fun b e hb hc => by
  have hv : b ≠ v := fun z => by
    subst z
    exact hz e hc
  have q := h.2 b e hb hc
  have q1 := h1.2 b e hv q.1
  exact ⟨q1.1, fun hn => q1.2 (q.2 hn)⟩⟩
theorem Gr.set (h : Gr κ0 κ w0 w x) (hk : ∀ (b : Nat) (e' : va_E), b ≠ a → cAt w b e' → cAt w' b e') (ha : a = x ∨ ∀ e : va_E, ¬ cAt w0 a e) : Gr κ0 κ w0 w' x := ⟨h.1, fun b e hb hc => ⟨hk b e (fun z => by
  subst z
  rcases ha with ha | ha
  · exact hb ha
  · exact ha e hc) (h.2 b e hb hc).1, (h.2 b e hb hc).2⟩⟩
theorem Gr.fld {c j : Nat} {y : Value} (h : Gr κ κ' w w' x) (ha : a ≠ x) (hf : fld w a c j y) : fld w' a c j y := by
  obtain ⟨q, fs, h1, h2⟩ := hf
  exact (h.2 a _ ha ⟨q, h1⟩).1.fld h2
theorem Ty.setU {q : Nat} {e0 : va_E} (hT : Ty κ tys B w) (hq : w[q]? = some (a, e0)) (hn : κ a = none) : Ty κ tys B (w.set q (a, e)) := by
  intro b k h
  obtain ⟨i, e', h1, h2⟩ := hT b k h
  have hi : q ≠ i := fun z => by
    subst z
    have := congrArg Prod.fst (Option.some.inj (hq.symm.trans h1))
    simp at this
    rw [this, h] at hn
    cases hn
  exact ⟨i, e', by rw [List.getElem?_set_ne hi]; exact h1, h2⟩
theorem cAt_set {q : Nat} {e0 : va_E} (hD : va_D A w) (hq : w[q]? = some (a, e0)) : (∀ (b : Nat) (e' : va_E), b ≠ a → cAt w b e' → cAt (w.set q (a, e)) b e') ∧ cAt (w.set q (a, e)) a e := by
  refine ⟨fun b e' hb ⟨i, hi⟩ => ⟨i, ?_⟩, ⟨q, by rw [List.getElem?_set_self (List.getElem?_eq_some_iff.mp hq).1]⟩⟩
  have hqi : q ≠ i := fun z => by
    subst z
    have := congrArg Prod.fst (Option.some.inj (hq.symm.trans hi))
    exact hb this.symm
  rw [List.getElem?_set_ne hqi]
  exact hi
theorem nk (h1 : κ a = some k) (h2 : κ v = none) : a ≠ v := fun z => by
  subst z
  rw [h1] at h2
  cases h2
end GG
section TU
variable {p : Program} {l : Launch} {e : Env} {R : Room} {s : State} {m : MethodId} {args : Array Value} {below : List Frame} {meth : Method} {c : Code} {H : Heap} {locs : List Loc} {cells slots : Nat} {Q : State → Prop}
variable {cc : ByteArray} {pc : Nat} {ls : Array Slot} {rest st0 : List Value} {D : va_G} {A : Nat → Prop} {a : Nat} {tys : List (ClassId × FieldType)} {κ : tK} {B : Nat} {ws : va_W}
theorem t_putU (hexec : p.tables.exec = Jvm.exec) (hb : c.code = cc) {own ref C : String} {T : u_T} {N ci index : Nat} {Ts : List Cond} (hts : ∀ w ∈ Ts, w.before args s = true) (hin : ∀ w ∈ u_ws C T N, w ∈ Ts) (ty0 : Nat → FieldType) (hty : ∀ k, k < N → parseFieldDescriptor (T k).2.2.1 = some (ty0 k)) (hnm : ∀ a, a < N → ∀ b, b < N → a ≠ b → (T a).2.1 ≠ (T b).2.1) (hown : s.vm.findClass own = some m.cls) (hw : tW D tys κ B A s ws H locs) {fs : List Value} (hc0 : cAt ws a (.inr (ci, fs))) (hn0 : κ a = none) (hc : vwCl[ci]? = some (C, T, N)) (k : Nat) (hk : k < N) (hlink : (Cond.fieldLink own index ref (T k).2.1 (T k).2.2.1).before args s = true) (hsame : ∀ x, s.fieldFound? (T k).1 (T k).2.1 (T k).2.2.1 = some x → s.fieldFound? ref (T k).2.1 (T k).2.2.1 = some x) (hfin : (T k).2.2.2 = false) {ty : FieldType} {v : Value} (hd : parseFieldDescriptor (T k).2.2.1 = some ty) (hn : narrow ty v = v) (hfit : fits ty v = true) (hl : k < fs.length) (hdg : decode cc pc = .ok (.putfield index, 3))
    (kk : ∀ (ws1 : va_W) (H1 : Heap) (locs1 : List Loc), tW D tys κ B A s ws1 H1 locs1 → (∀ (b : Nat) (e' : va_E), b ≠ a → cAt ws b e' → cAt ws1 b e') → cAt ws1 a (.inr (ci, fs.set k v)) → W p l e R s m args below meth c H1 locs1 cells slots Q (F0 m (pc + 3) ls rest)) : W p l e R s m args below meth c H locs cells slots Q (F0 m pc ls (v :: .ref a :: rest)) := by
  obtain ⟨hK, hP, hD, hS, hT⟩ := hw
  obtain ⟨q, hq⟩ := hc0
  refine va_put hexec hb hts hin ty0 hty hnm hown hK hP hD hS q hq hc k hk hlink hsame hfin hd hn hfit hl hdg (fun H1 locs1 hP1 hD1 hS1 => ?_)
  have hz := cAt_set (e := .inr (ci, fs.set k v)) hD hq
  exact kk _ H1 locs1 ⟨hK, hP1, hD1, hS1, hT.setU hq hn0⟩ hz.1 hz.2
theorem t_putUF (hexec : p.tables.exec = Jvm.exec) (hb : c.code = cc) {own ref C : String} {T : u_T} {N ci index : Nat} {Ts : List Cond} (hts : ∀ w ∈ Ts, w.before args s = true) (hin : ∀ w ∈ u_ws C T N, w ∈ Ts) (ty0 : Nat → FieldType) (hty : ∀ k, k < N → parseFieldDescriptor (T k).2.2.1 = some (ty0 k)) (hnm : ∀ a, a < N → ∀ b, b < N → a ≠ b → (T a).2.1 ≠ (T b).2.1) (hown : s.vm.findClass own = some m.cls) (hw : tW D tys κ B A s ws H locs) {fs : List Value} (hc0 : cAt ws a (.inr (ci, fs))) (hn0 : κ a = none) (hc : vwCl[ci]? = some (C, T, N)) (k : Nat) (hk : k < N) (hlink : (Cond.fieldLink own index ref (T k).2.1 (T k).2.2.1).before args s = true) (hsame : ∀ x, s.fieldFound? (T k).1 (T k).2.1 (T k).2.2.1 = some x → s.fieldFound? ref (T k).2.1 (T k).2.2.1 = some x) (hfin : (T k).2.2.2 = true) (hin2 : meth.name = "<init>") (hdecl : (T k).1 = own) {ty : FieldType} {v : Value} (hd : parseFieldDescriptor (T k).2.2.1 = some ty) (hn : narrow ty v = v) (hfit : fits ty v = true) (hl : k < fs.length) (hdg : decode cc pc = .ok (.putfield index, 3))
    (kk : ∀ (ws1 : va_W) (H1 : Heap) (locs1 : List Loc), tW D tys κ B A s ws1 H1 locs1 → (∀ (b : Nat) (e' : va_E), b ≠ a → cAt ws b e' → cAt ws1 b e') → cAt ws1 a (.inr (ci, fs.set k v)) → W p l e R s m args below meth c H1 locs1 cells slots Q (F0 m (pc + 3) ls rest)) : W p l e R s m args below meth c H locs cells slots Q (F0 m pc ls (v :: .ref a :: rest)) := by
  obtain ⟨hK, hP, hD, hS, hT⟩ := hw
  obtain ⟨q, hq⟩ := hc0
  refine va_putF hexec hb hts hin ty0 hty hnm hown hK hP hD hS q hq hc k hk hlink hsame hfin hin2 hdecl hd hn hfit hl hdg (fun H1 locs1 hP1 hD1 hS1 => ?_)
  have hz := cAt_set (e := .inr (ci, fs.set k v)) hD hq
  exact kk _ H1 locs1 ⟨hK, hP1, hD1, hS1, hT.setU hq hn0⟩ hz.1 hz.2
theorem t_aastU (hexec : p.tables.exec = Jvm.exec) (hb : c.code = cc) (hw : tW D tys κ B A s ws H locs) {cA : ClassId} {n : Nat} {f : Nat → Option Nat} (hc0 : cAt ws a (.inl (cA, n, .inr (.inr (.inr (.inr f)))))) (hn0 : κ a = none) {ci v : Nat} {r : vw_C} (ht : ∃ t0 : Nat, tys[t0]? = some (cA, .object r.1)) (hv : κ v = some ci) (hci : abt ci = 9) (hc : vwCl[ci]? = some r) {i : Int32} (hin : vp_in i n) (hdg : decode cc pc = .ok (.aastore, 1))
    (kk : ∀ (ws1 : va_W) (H1 : Heap) (locs1 : List Loc), tW D tys κ B A s ws1 H1 locs1 → (∀ (b : Nat) (e' : va_E), b ≠ a → cAt ws b e' → cAt ws1 b e') → cAt ws1 a (.inl (cA, n, .inr (.inr (.inr (.inr (va_up f i.toNatClampNeg (some v))))))) → W p l e R s m args below meth c H1 locs1 cells slots Q (F0 m (pc + 1) ls rest)) : W p l e R s m args below meth c H locs cells slots Q (F0 m pc ls (.ref v :: .int i :: .ref a :: rest)) := by
  obtain ⟨hK, hP, hD, hS, hT⟩ := hw
  obtain ⟨q, hq⟩ := hc0
  obtain ⟨t0, ht⟩ := ht
  obtain ⟨qv, ev, hqv, hev⟩ := hT v ci hv
  obtain ⟨vs, rfl, -, -⟩ := hev.o hci
  refine va_astq hexec hb hK hP hD hS q t0 qv ci (r := r) hq ht hqv hc hin hdg (fun H1 locs1 hP1 hD1 hS1 => ?_)
  have hz := cAt_set (e := .inl (cA, n, .inr (.inr (.inr (.inr (va_up f i.toNatClampNeg (some v))))))) hD hq
  exact kk _ H1 locs1 ⟨hK, hP1, hD1, hS1, hT.setU hq hn0⟩ hz.1 hz.2
theorem t_callK {mc ms : Nat} {av : Array Value} {post : (va_W × tK × List (ClassId × FieldType)) → Prop} (hr : va_Run p l e R s m args below meth c H locs cells slots mc ms (F0 m pc ls st0) rest (va_Qv post (fun u t => cPost D u.2.2 u.1 (va_A ws H.size) t) (va_A ws H.size) av) (va_A ws H.size)) (hw : tW D tys κ B A s ws H locs) (hA : ∀ q, s.heap.size ≤ q → A q) (hT : ∀ u, post u → Ty u.2.1 u.2.2 B u.1)
    (kk : ∀ (u : va_W × tK × List (ClassId × FieldType)) (H1 : Heap) (locs1 : List Loc), post u → tW D u.2.2 u.2.1 B A s u.1 H1 locs1 → W p l e R s m args below meth c H1 locs1 (cells + mc) (slots + ms) Q (F0 m (pc + 3) ls rest)) : W p l e R s m args below meth c H locs cells slots Q (F0 m pc ls st0) :=
  va_callv hr hw.2.2.2.1 (fun q _ h => hw.free hA q h) (hw.free hA) (fun u t H1 locs1 ht hvm hp hB _ _ hS1 => kk u H1 locs1 hp ⟨va_K.moved hvm.symm hB.2.1, by rw [← ht]; exact hB.1, hB.2.2.weaken (fun _ _ _ h => hw.free hA _ h), hS1, hT u hp⟩)
end TU
/-- the first i of an array of references are there -/
def fil (κ : tK) (f : Nat → Option Nat) (i k : Nat) : Prop := ∀ j : Nat, j < i → ∃ a : Nat, f j = some a ∧ κ a = some k
theorem fil.nil {κ : tK} {f : Nat → Option Nat} {k : Nat} : fil κ f 0 k := fun j h => absurd h (by omega)
theorem fil.ext {κ κ' : tK} {f : Nat → Option Nat} {i k : Nat} (h : fil κ f i k) (hx : Ext κ κ') : fil κ' f i k := fun j hj => by
  obtain ⟨a, h1, h2⟩ := h j hj
  exact ⟨a, h1, hx _ _ h2⟩
theorem fil.up {κ : tK} {f : Nat → Option Nat} {i k v : Nat} {x : Int32} (h : fil κ f i k) (hx : x.toNatClampNeg = i) (hv : κ v = some k) : fil κ (va_up f x.toNatClampNeg (some v)) (i + 1) k := fun j hj => by
  by_cases hq : j = i
  · subst hq
    exact ⟨v, by simp only [va_up, hx, if_true], hv⟩
  · obtain ⟨a, h1, h2⟩ := h j (by omega)
    exact ⟨a, by simp only [va_up, hx, hq, if_false]; exact h1, h2⟩
theorem fld_hk {w w' : va_W} {a b c k : Nat} {v : Value} (hk : ∀ (b : Nat) (e' : va_E), b ≠ a → cAt w b e' → cAt w' b e') (hb : b ≠ a) (hf : fld w b c k v) : fld w' b c k v := by
  obtain ⟨q, fs, h1, h2⟩ := hf
  exact (hk b _ hb ⟨q, h1⟩).fld h2
theorem ivS_z {D : Int} (hD : 0 ≤ D) (j : Nat) : (ivS D j).1 ≤ (0 : Int32).toInt ∧ (0 : Int32).toInt ≤ (ivS D j).2 := by
  rw [show (0 : Int32).toInt = 0 by decide]
  unfold ivS
  repeat' split
  all_goals first | exact ⟨by decide, by decide⟩ | exact ⟨Int.le_refl _, hD⟩
theorem at_last {α : Type} {l : List α} {x : α} : (l ++ [x])[l.length]? = some x := by
  rw [List.getElem?_append_right (Nat.le_refl _), Nat.sub_self]
  rfl
