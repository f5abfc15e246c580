theorem ivS_0 (j : Nat) : (ivS 1999 j).1 ≤ (0 : Int32).toInt ∧ (0 : Int32).toInt ≤ (ivS 1999 j).2 := by
  rw [show (0 : Int32).toInt = 0 by decide]
  unfold ivS
  repeat' split
  all_goals decide
theorem ivR_z (j : Nat) : (ivR j).1 ≤ (0 : Int32).toInt ∧ (0 : Int32).toInt ≤ (ivR j).2 := by
  rw [show (0 : Int32).toInt = 0 by decide]
  exact ivR_0 j
/-! ===== the world grows ===== -/
def Ext (κ κ' : tK) : Prop := ∀ a k : Nat, κ a = some k → κ' a = some k
theorem Ext.rf {κ : tK} : Ext κ κ := fun _ _ h => h
theorem Ext.trans {κ κ1 κ2 : tK} (h : Ext κ κ1) (h1 : Ext κ1 κ2) : Ext κ κ2 := fun a k q => h1 a k (h a k q)
def SubT (t t' : List (ClassId × FieldType)) : Prop := ∀ (k : Nat) (q : ClassId × FieldType), t[k]? = some q → ∃ k' : Nat, t'[k']? = some q
theorem SubT.rf {t : List (ClassId × FieldType)} : SubT t t := fun k _ h => ⟨k, h⟩
theorem SubT.app {t t' : List (ClassId × FieldType)} : SubT t (t ++ t') := fun k q h => ⟨k, by rw [List.getElem?_append_left (List.getElem?_eq_some_iff.mp h).1]; exact h⟩
theorem SubT.trans {t t1 t2 : List (ClassId × FieldType)} (h : SubT t t1) (h1 : SubT t1 t2) : SubT t t2 := fun k q hk => by
  obtain ⟨k', h'⟩ := h k q hk
  exact h1 k' q h'
def kap (κ : tK) : List (Nat × Nat) → tK
  | [] => κ
  | p :: l => fun a => if a = p.1 then some p.2 else kap κ l a
theorem kap_ext {κ : tK} : ∀ {l : List (Nat × Nat)}, (∀ p ∈ l, κ p.1 = none) → Ext κ (kap κ l)
  | [], _ => Ext.rf
  | p :: l, h => fun a k hk => by
    have h1 := kap_ext (l := l) (fun x hx => h x (List.mem_cons_of_mem _ hx)) a k hk
    by_cases ha : a = p.1
    · subst ha
      rw [h p List.mem_cons_self] at hk
      cases hk
    · simp only [kap, ha, if_false]
      exact h1
theorem kap_cases {κ : tK} {a k : Nat} : ∀ {l : List (Nat × Nat)}, kap κ l a = some k → (a, k) ∈ l ∨ κ a = some k
  | [], h => Or.inr h
  | p :: l, h => by
    by_cases ha : a = p.1
    · simp only [kap, ha, if_true] at h
      cases h
      subst ha
      exact Or.inl List.mem_cons_self
    · simp only [kap, ha, if_false] at h
      rcases kap_cases h with q | q
      · exact Or.inl (List.mem_cons_of_mem _ q)
      · exact Or.inr q
theorem okE.ext {κ κ' : tK} {tys tys' : List (ClassId × FieldType)} {B k : Nat} {e : va_E} (hx : Ext κ κ') (ht : SubT tys tys') (h : okE κ tys B k e) : okE κ' tys' B k e := by
  rcases h with ⟨hk, fs, h1, h2, h3⟩ | ⟨hk, cA, t0, f, h1, h2⟩ | ⟨hk, cA, t0, f, h1, h2⟩ | ⟨hk, cA, t0, f, h1, h2, h3⟩ | ⟨hk, cA, t0, f, h1, h2, h3⟩
  · exact Or.inl ⟨hk, fs, h1, h2, fun j v hv => (h3 j v hv).ext hx⟩
  · obtain ⟨t1, g⟩ := ht _ _ h1
    exact Or.inr (Or.inl ⟨hk, cA, t1, f, g, h2⟩)
  · obtain ⟨t1, g⟩ := ht _ _ h1
    exact Or.inr (Or.inr (Or.inl ⟨hk, cA, t1, f, g, h2⟩))
  · obtain ⟨t1, g⟩ := ht _ _ h1
    exact Or.inr (Or.inr (Or.inr (Or.inl ⟨hk, cA, t1, f, g, h2, fun j hj => by
      obtain ⟨a, g1, g2⟩ := h3 j hj
      exact ⟨a, g1, hx _ _ g2⟩⟩)))
  · obtain ⟨t1, g⟩ := ht _ _ h1
    exact Or.inr (Or.inr (Or.inr (Or.inr ⟨hk, cA, t1, f, g, h2, fun j hj a ha => hx _ _ (h3 j hj a ha)⟩)))
theorem Ty.grow {κ : tK} {tys tys' : List (ClassId × FieldType)} {B : Nat} {ws w1 : va_W} {l : List (Nat × Nat)} (hT : Ty κ tys B ws) (hs : SubT tys tys') (hf : ∀ p ∈ l, κ p.1 = none) (hok : ∀ p ∈ l, ∃ (q : Nat) (e : va_E), w1[q]? = some (p.1, e) ∧ okE (kap κ l) tys' B p.2 e) : Ty (kap κ l) tys' B (ws ++ w1) := by
  intro a k h
  rcases kap_cases h with q | q
  · obtain ⟨i, e, h1, h2⟩ := hok _ q
    exact ⟨ws.length + i, e, by rw [List.getElem?_append_right (by omega), show ws.length + i - ws.length = i by omega]; exact h1, h2⟩
  · obtain ⟨i, e, h1, h2⟩ := hT a k q
    exact ⟨i, e, by rw [List.getElem?_append_left (List.getElem?_eq_some_iff.mp h1).1]; exact h1, h2.ext (kap_ext hf) hs⟩
theorem Ty.fresh {A : Nat → Prop} {κ : tK} {tys : List (ClassId × FieldType)} {B : Nat} {ws w1 : va_W} {i a : Nat} {e : va_E} (hT : Ty κ tys B ws) (hD : va_D A (ws ++ w1)) (h : w1[i]? = some (a, e)) : κ a = none := by
  cases hk : κ a with
  | none => rfl
  | some k =>
    obtain ⟨j, e', h1, -⟩ := hT a k hk
    have hj := (List.getElem?_eq_some_iff.mp h1).1
    have := hD.1 j (ws.length + i) (a, e') (a, e) (by rw [List.getElem?_append_left hj]; exact h1) (by rw [List.getElem?_append_right (by omega), show ws.length + i - ws.length = i by omega]; exact h) rfl
    omega
section TN
variable {p : Program} {l : Launch} {e : Env} {R : Room} {s : State} {m : MethodId} {args : Array Value} {below : List Frame} {meth : Method} {c : Code} {H : Heap} {locs : List Loc} {cells slots : Nat} {Q : State → Prop}
variable {pc : Nat} {ls : Array Slot} {rest st0 : List Value} {D : va_G} {A : Nat → Prop} {ws : va_W}
/-- a constructor over its own new cell, beside a world -/
theorem t_callNw {S : Type} {mc ms q : Nat} {e0 : va_E} {a : Array Value} {post : S → Prop} {Bq : S → State → Prop} (hr : va_Run p l e R s m args below meth c H locs cells slots mc ms (F0 m pc ls st0) rest (va_Qv post Bq (va_A [(q, e0)] H.size) a) (va_A [(q, e0)] H.size)) (hP : va_P D vwCl (ws ++ [(q, e0)]) H) (hD : va_D A (ws ++ [(q, e0)])) (hS : va_S A s.heap H locs) (hA : ∀ x, s.heap.size ≤ x → A x)
    (kk : ∀ (u : S) (t : State) (H1 : Heap) (locs1 : List Loc), t.heap = H1 → s.vm.Alike t.vm → Bq u t → (∀ w1 : va_W, va_P D vwCl w1 H1 → va_D (va_A [(q, e0)] H.size) w1 → va_P D vwCl (ws ++ w1) H1 ∧ va_D A (ws ++ w1)) → va_S A s.heap H1 locs1 → W p l e R s m args below meth c H1 locs1 (cells + mc) (slots + ms) Q (F0 m (pc + 3) ls rest)) : W p l e R s m args below meth c H locs cells slots Q (F0 m pc ls st0) := by
  have hq : (ws ++ [(q, e0)])[ws.length]? = some (q, e0) := by rw [List.getElem?_append_right (Nat.le_refl _), Nat.sub_self]; rfl
  have hF : ∀ x, va_A [(q, e0)] H.size x → A x := by
    intro x h
    rcases h with ⟨k, y, h⟩ | h
    · have hk : k < 1 := (List.getElem?_eq_some_iff.mp h).1
      rw [show k = 0 by omega] at h
      cases h
      exact hD.2 _ _ hq
    · exact hA x (Nat.le_trans hS.1 h)
  have hin : ∀ (k : Nat) (x : Nat × va_E), ws[k]? = some x → (ws ++ [(q, e0)])[k]? = some x ∧ x.1 < H.size ∧ ¬ va_A [(q, e0)] H.size x.1 := by
    intro k x hk
    have hl := (List.getElem?_eq_some_iff.mp hk).1
    have h1 : (ws ++ [(q, e0)])[k]? = some x := by rw [List.getElem?_append_left hl]; exact hk
    refine ⟨h1, (hP k x h1).lt, fun h => ?_⟩
    rcases h with ⟨j, y, h⟩ | h
    · have hj : j < 1 := (List.getElem?_eq_some_iff.mp h).1
      rw [show j = 0 by omega] at h
      have hx : q = x.1 := congrArg Prod.fst (Option.some.inj h)
      have := hD.1 k ws.length x (q, e0) h1 hq hx.symm
      omega
    · have := (hP k x h1).lt
      omega
  refine va_callv hr hS (fun x _ h => hF x h) hF (fun u t H1 locs1 ht hvm _ hB _ hk hS1 => kk u t H1 locs1 ht hvm hB (fun w1 hP1 hD1 => ⟨va_P.app (fun k x hx => ?_) hP1, va_D.app ⟨fun i j x y hi hj hxy => ?_, fun k x hx => ?_⟩ (hD1.weaken (fun _ _ _ h => hF _ h)) (fun i j x y hx hy hxy => ?_)⟩) hS1)
  · obtain ⟨h1, h2, h3⟩ := hin k x hx
    exact (hP k x h1).kept (hk x.1 h2 h3)
  · exact hD.1 i j x y (hin i x hi).1 (hin j y hj).1 hxy
  · exact hD.2 k x (hin k x hx).1
  · exact (hin i x hx).2.2 (by rw [hxy]; exact hD1.2 j y hy)
end TN
/-- the kinds of new cells, in their order -/
def kz (w1 : va_W) (ks : List Nat) : List (Nat × Nat) := List.zipWith (fun x k => (x.1, k)) w1 ks
theorem kz_at {w1 : va_W} {ks : List Nat} {i : Nat} {p : Nat × Nat} (h : (kz w1 ks)[i]? = some p) : ∃ e : va_E, w1[i]? = some (p.1, e) ∧ ks[i]? = some p.2 := by
  unfold kz at h
  rw [List.getElem?_zipWith] at h
  cases h1 : w1[i]? with
  | none => rw [h1] at h; simp at h
  | some x =>
    cases h2 : ks[i]? with
    | none => rw [h1, h2] at h; simp at h
    | some k =>
      rw [h1, h2] at h
      simp at h
      subst h
      exact ⟨x.2, rfl, rfl⟩
theorem kap_at {κ : tK} {a k : Nat} : ∀ {l : List (Nat × Nat)} {i : Nat}, (∀ (i j : Nat) (p q : Nat × Nat), l[i]? = some p → l[j]? = some q → p.1 = q.1 → i = j) → l[i]? = some (a, k) → kap κ l a = some k
  | [], i, _, h => by simp at h
  | p :: l, 0, _, h => by
    simp at h
    subst h
    simp [kap]
  | p :: l, i + 1, hd, h => by
    have ha : a ≠ p.1 := fun z => by
      have := hd (i + 1) 0 (a, k) p h rfl z
      omega
    simp only [kap, ha, if_false]
    exact kap_at (l := l) (i := i) (fun i j x y h1 h2 h3 => by
      have := hd (i + 1) (j + 1) x y h1 h2 h3
      omega) (by simpa using h)
theorem growZ_at {A : Nat → Prop} {κ : tK} {ws w1 : va_W} {ks : List Nat} {i a k : Nat} {e : va_E} (hD : va_D A (ws ++ w1)) (h1 : w1[i]? = some (a, e)) (h2 : ks[i]? = some k) : kap κ (kz w1 ks) a = some k := by
  have hsh : ∀ (i : Nat) (x : Nat × va_E), w1[i]? = some x → (ws ++ w1)[ws.length + i]? = some x := fun i x hx => by
    rw [List.getElem?_append_right (by omega), show ws.length + i - ws.length = i by omega]
    exact hx
  refine kap_at (l := kz w1 ks) (i := i) (fun i j p q hp hq hpq => ?_) ?_
  · obtain ⟨e1, g1, -⟩ := kz_at hp
    obtain ⟨e2, g2, -⟩ := kz_at hq
    have := hD.1 _ _ _ _ (hsh i _ g1) (hsh j _ g2) hpq
    omega
  · unfold kz
    rw [List.getElem?_zipWith, h1, h2]
theorem Ty.growZ {A : Nat → Prop} {κ : tK} {tys tys' : List (ClassId × FieldType)} {B : Nat} {ws w1 : va_W} {ks : List Nat} (hT : Ty κ tys B ws) (hD : va_D A (ws ++ w1)) (hs : SubT tys tys') (hok : ∀ (i : Nat) (x : Nat × va_E) (k : Nat), w1[i]? = some x → ks[i]? = some k → okE (kap κ (kz w1 ks)) tys' B k x.2) : Ty (kap κ (kz w1 ks)) tys' B (ws ++ w1) := by
  refine Ty.grow hT hs (fun p hp => ?_) (fun p hp => ?_)
  · obtain ⟨i, hi⟩ := List.getElem?_of_mem hp
    obtain ⟨e, g1, -⟩ := kz_at hi
    exact hT.fresh hD g1
  · obtain ⟨i, hi⟩ := List.getElem?_of_mem hp
    obtain ⟨e, g1, g2⟩ := kz_at hi
    exact ⟨i, e, g1, hok i _ _ g1 g2⟩
theorem growZ_ext {A : Nat → Prop} {κ : tK} {tys : List (ClassId × FieldType)} {B : Nat} {ws w1 : va_W} {ks : List Nat} (hT : Ty κ tys B ws) (hD : va_D A (ws ++ w1)) : Ext κ (kap κ (kz w1 ks)) := kap_ext (fun p hp => by
  obtain ⟨i, hi⟩ := List.getElem?_of_mem hp
  obtain ⟨e, g1, -⟩ := kz_at hi
  exact hT.fresh hD g1)
theorem Sm.ext {M : List (Nat × Nat)} {MA : List Nat} {κ κ' : tK} {w w' : va_W} (h : Sm M MA κ' w w') (hx : Ext κ κ') : Sm M MA κ w w' := ⟨h.1, fun a k x hk hn hc => h.2 a k x (hx a k hk) hn hc⟩
theorem P_last {D : va_G} {cl : List vw_C} {ws : va_W} {x : Nat × va_E} {H : Heap} (h : va_P D cl (ws ++ [x]) H) : va_P D cl [x] H := fun k q hk => by
  have h1 : k < 1 := (List.getElem?_eq_some_iff.mp hk).1
  rw [show k = 0 by omega] at hk
  cases hk
  exact h ws.length x (by rw [List.getElem?_append_right (Nat.le_refl _), Nat.sub_self]; rfl)
theorem D_last {x : Nat × va_E} : va_D (fun _ => True) [x] := ⟨fun i j p q hi hj _ => by
  have h1 : i < 1 := (List.getElem?_eq_some_iff.mp hi).1
  have h2 : j < 1 := (List.getElem?_eq_some_iff.mp hj).1
  omega, fun _ _ _ => trivial⟩
theorem fld.app {w w1 : va_W} {a c k : Nat} {v : Value} (h : fld w a c k v) : fld (w ++ w1) a c k v := by
  obtain ⟨q, fs, h1, h2⟩ := h
  exact ⟨q, fs, by rw [List.getElem?_append_left (List.getElem?_eq_some_iff.mp h1).1]; exact h1, h2⟩
theorem Sm.grow {M : List (Nat × Nat)} {MA : List Nat} {κ : tK} {w0 w w1 : va_W} (h : Sm M MA κ w0 w) : Sm M MA κ w0 (w ++ w1) :=
  ⟨fun a c k v hf hn => (h.1 a c k v hf hn).app, fun a k x hk hn hc => by
    obtain ⟨q, h1⟩ := h.2 a k x hk hn hc
    exact ⟨q, by rw [List.getElem?_append_left (List.getElem?_eq_some_iff.mp h1).1]; exact h1⟩⟩
section TA
variable {p : Program} {l : Launch} {e : Env} {R : Room} {s : State} {m : MethodId} {args : Array Value} {below : List Frame} {meth : Method} {c : Code} {H : Heap} {locs : List Loc} {cells slots : Nat} {Q : State → Prop}
variable {pc : Nat} {ls : Array Slot} {rest st0 : List Value} {D : va_G} {A : Nat → Prop} {tys : List (ClassId × FieldType)} {κ : tK} {B : Nat} {ws : va_W}
theorem t_callqA {mc ms : Nat} {a : Array Value} {post : Option Nat → (va_W × tK × List (ClassId × FieldType)) → Prop} (hr : va_Run p l e R s m args below meth c H locs cells slots mc ms (F0 m pc ls st0) rest (va_Qq post (fun u t => cPost D u.2.2 u.1 (va_A ws H.size) t) (va_A ws H.size) a) (va_A ws H.size)) (hw : tW D tys κ B A s ws H locs) (hA : ∀ q, s.heap.size ≤ q → A q) (hT : ∀ r u, post r u → Ty u.2.1 u.2.2 B u.1)
    (kk : ∀ (r : Option Nat) (u : va_W × tK × List (ClassId × FieldType)) (H1 : Heap) (locs1 : List Loc), post r u → tW D u.2.2 u.2.1 B A s u.1 H1 locs1 → W p l e R s m args below meth c H1 locs1 (cells + mc) (slots + ms) Q (F0 m (pc + 3) ls (va_rf r :: rest))) : W p l e R s m args below meth c H locs cells slots Q (F0 m pc ls st0) :=
  va_callq hr hw.2.2.2.1 (fun q _ h => hw.free hA q h) (hw.free hA) (fun r u t H1 locs1 ht hvm hp hB _ _ hS1 => kk r u H1 locs1 hp ⟨va_K.moved hvm.symm hB.2.1, by rw [← ht]; exact hB.1, hB.2.2.weaken (fun _ _ _ h => hw.free hA _ h), hS1, hT r u hp⟩)
end TA
/-! ===== the reference's rules: signs on a stack, by depth ===== -/
def exec1 (x : Int32) (d : Nat) : Option Nat := if (x &&& 15).toInt = 0 then (if d < 63 then some (d + 1) else none) else if (x &&& 15).toInt = 1 then (if d < 63 ∧ 0 ≤ (x >>> (4 &&& 31)).toInt ∧ (x >>> (4 &&& 31)).toInt ≤ 10 then some (d + 1) else none) else if (x &&& 15).toInt = 11 then (if 1 ≤ d then some d else none) else (if 2 ≤ d then some (d - 1) else none)
def exec (f : Nat → Int32) : Nat → Nat → Nat → Option Nat
  | _, 0, d => some d
  | i, n + 1, d => match exec1 (f i) d with
    | none => none
    | some d' => exec f (i + 1) n d'
theorem exec_app {f : Nat → Int32} {m : Nat} : ∀ {n i d d' : Nat}, exec f i n d = some d' → exec f i (n + m) d = exec f (i + n) m d'
  | 0, i, d, d', h => by
    simp only [exec, Option.some.injEq] at h
    subst h
    rw [Nat.zero_add, Nat.add_zero]
  | n + 1, i, d, d', h => by
    rw [show n + 1 + m = (n + m) + 1 by omega]
    simp only [exec] at h ⊢
    cases hx : exec1 (f i) d with
    | none => rw [hx] at h; simp at h
    | some e =>
      rw [hx] at h
      simp only at h ⊢
      rw [exec_app h, show i + 1 + n = i + (n + 1) by omega]
theorem exec_congr {f g : Nat → Int32} : ∀ {n i d : Nat}, (∀ j, i ≤ j → j < i + n → f j = g j) → exec f i n d = exec g i n d
  | 0, i, d, _ => rfl
  | n + 1, i, d, h => by
    simp only [exec]
    rw [h i (Nat.le_refl _) (by omega)]
    cases exec1 (g i) d with
    | none => rfl
    | some e => exact exec_congr (fun j h1 h2 => h j (by omega) (by omega))
/-- n signs from i on: wants `a` on the stack, leaves `k` in their place, by `c` pushes at most -/
def Seg (f : Nat → Int32) (i n a k c : Nat) : Prop := ∀ d : Nat, d + a + c ≤ 63 → exec f i n (d + a) = some (d + k)
theorem Seg.nil {f : Nat → Int32} {i a : Nat} : Seg f i 0 a a 0 := fun _ _ => rfl
theorem Seg.one {f : Nat → Int32} {i a k c : Nat} (h : ∀ d : Nat, d + a + c ≤ 63 → exec1 (f i) (d + a) = some (d + k)) : Seg f i 1 a k c := fun d hd => by
  simp only [exec]
  rw [h d hd]
theorem Seg.app {f : Nat → Int32} {i n m a k k' r b c c' : Nat} (h : Seg f i n a k c) (h1 : Seg f (i + n) m b k' c') (hk : k = r + b) (hd : k ≤ a + c) : Seg f i (n + m) a (r + k') (c + c') := fun d hdd => by
  rw [exec_app (h d (by omega)), show d + k = (d + r) + b by omega, h1 (d + r) (by omega), Nat.add_assoc]
theorem Seg.congr {f g : Nat → Int32} {i n a k c : Nat} (h : Seg f i n a k c) (hfg : ∀ j, i ≤ j → j < i + n → f j = g j) : Seg g i n a k c := fun d hd => by
  rw [← exec_congr hfg]
  exact h d hd
theorem Seg.more {f : Nat → Int32} {i n a k c c' : Nat} (h : Seg f i n a k c) (hc : c ≤ c') : Seg f i n a k c' := fun d hd => h d (by omega)
/-- the whole contents of an array of ints -/
def arr (ws : va_W) (a : Nat) (f : Nat → Int32) : Prop := ∃ (q : Nat) (cA : ClassId) (n : Nat), ws[q]? = some (a, .inl (cA, n, .inl f))
