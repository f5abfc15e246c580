/-! ===== the tables' good words, as one list for all contracts ===== -/
def gT : List Cond := lw_tbl.filter goodWord
theorem gT_in {w : Cond} (h : w ∈ lw_tbl) (g : goodWord w = true) : w ∈ gT := List.mem_filter.mpr ⟨h, g⟩
theorem gT_sub {w : Cond} (h : w ∈ gT) : w ∈ lw_tbl := (List.mem_filter.mp h).1
theorem gT_good {w : Cond} (h : w ∈ gT) : (w.onTables && w.keeps) = true ∨ ∃ ty, w = .arrayClass ty := good_of_word (List.mem_filter.mp h).2
abbrev ws_u (y : MethodName) (cc : ByteArray) (n : Nat) (ret : Option FieldType) : List Cond := .code y cc n ret :: gT
theorem gU {a : Cond} (h : a ∈ gT) : GoodIn gT (a :: gT) := fun w hw => (List.mem_cons.mp hw).elim (fun e => by subst e; exact ⟨h, gT_good h⟩) (fun k => ⟨k, gT_good k⟩)
theorem gUV {own C : String} {idx : Nat} {y : MethodName} {a : Cond} (h1 : Cond.methodLink own idx y ∈ gT) (h2 : Cond.instanceMethod y ∈ gT) (h3 : Cond.selects C y y ∈ gT) (h4 : Cond.initialized C ∈ gT) (h5 : a ∈ gT) : GoodIn gT (wsV own idx C y (a :: gT)) := by
  intro w hw
  have h : w ∈ gT := by
    rcases List.mem_append.mp hw with k | k
    · simp only [List.mem_cons, List.not_mem_nil, or_false] at k
      rcases k with rfl | rfl | rfl | rfl
      · exact h1
      · exact h2
      · exact h3
      · exact h4
    · rcases List.mem_cons.mp k with rfl | k
      · exact h5
      · exact k
  exact ⟨h, gT_good h⟩
theorem gUS {own : String} {idx : Nat} {y : MethodName} {a : Cond} (h1 : Cond.methodLink own idx y ∈ gT) (h2 : Cond.static y ∈ gT) (h4 : Cond.initialized y.cls ∈ gT) (h5 : a ∈ gT) : GoodIn gT (va_wsS own idx y (a :: gT)) := by
  intro w hw
  have h : w ∈ gT := by
    rcases List.mem_append.mp hw with k | k
    · simp only [List.mem_cons, List.not_mem_nil, or_false] at k
      rcases k with rfl | rfl | rfl
      · exact h1
      · exact h2
      · exact h4
    · rcases List.mem_cons.mp k with rfl | k
      · exact h5
      · exact k
  exact ⟨h, gT_good h⟩
/-! ===== what isn't a good word, said of the state: arrays over own classes, the nest's private constructor ===== -/
def gNest : Cond := .methodLinkNest "BoyBishop" 25 ⟨"BoyBishop$RuleReader", "<init>", "()V"⟩ "BoyBishop"
def gE (U : State) : Prop := va_AO RX0 U ∧ va_AO RX6 U ∧ va_AO RX8 U ∧ va_AO RX10 U ∧ va_Nw gNest U
theorem gE.aoX0 {U : State} (h : gE U) : va_AO RX0 U := h.1
theorem gE.aoX6 {U : State} (h : gE U) : va_AO RX6 U := h.2.1
theorem gE.aoX8 {U : State} (h : gE U) : va_AO RX8 U := h.2.2.1
theorem gE.aoX10 {U : State} (h : gE U) : va_AO RX10 U := h.2.2.2.1
theorem gE.nest {U : State} (h : gE U) : va_Nw gNest U := h.2.2.2.2
theorem gE.warm {s U : State} (hW : s.WarmedH U.vm) (h : gE s) : gE U := ⟨h.1.moved hW.alike, h.2.1.moved hW.alike, h.2.2.1.moved hW.alike, h.2.2.2.1.moved hW.alike, va_Nw.warmM hW h.2.2.2.2⟩
theorem gE.same {u U : State} (hv : u.vm = U.vm) (h : gE u) : gE U := by
  have ha : u.vm.Alike U.vm := by rw [hv]; exact Vm.Alike.refl _
  exact ⟨h.1.moved ha, h.2.1.moved ha, h.2.2.1.moved ha, h.2.2.2.1.moved ha, va_Nw.same rfl hv h.2.2.2.2⟩
/-! ===== a contract's start and end, in few words ===== -/
def cPre (D : va_G) (tys : List (ClassId × FieldType)) (ws : va_W) (sz : Nat) (U : State) : Prop := U.heap.size = sz ∧ va_P D vwCl ws U.heap ∧ va_K D vwCl tys U ∧ va_D (fun _ => True) ws ∧ gE U
def cPost (D : va_G) (tys : List (ClassId × FieldType)) (ws : va_W) (A : Nat → Prop) (t : State) : Prop := va_P D vwCl ws t.heap ∧ va_K D vwCl tys t ∧ va_D A ws
theorem cPre.blind {av : List Value} {D : va_G} {tys : List (ClassId × FieldType)} {ws : va_W} {sz : Nat} : FrameBlind (va_Pc av (cPre D tys ws sz)) := fun a U g mk q => by
  obtain ⟨q0, q1, qP, qK, qD, qE⟩ := q
  exact ⟨q0, q1, qP, va_K.moved (u := U) (U := U.calling g mk a) (Vm.Alike.refl U.vm) qK, qD, gE.same (u := U) rfl qE⟩
theorem cPre.use {s : State} {H : Heap} {av : List Value} {D : va_G} {tys : List (ClassId × FieldType)} {ws : va_W} {A : Nat → Prop} (hP : va_P D vwCl ws H) (hK : va_K D vwCl tys s) (hD : va_D A ws) (hE : gE s) : ∀ U : State, U.heap = H → s.WarmedH U.vm → va_Pc av (cPre D tys ws H.size) av.toArray U :=
  fun U hU hW => ⟨rfl, by rw [hU], by rw [hU]; exact hP, va_K.moved hW.alike hK, hD.weaken (fun _ _ _ _ => trivial), hE.warm hW⟩
theorem va_P_nil (D : va_G) (cl : List vw_C) (H : Heap) : va_P D cl [] H := fun k q h => by simp at h
theorem va_D_nil (A : Nat → Prop) : va_D A [] := ⟨fun i j p q h => by simp at h, fun k q h => by simp at h⟩
/-! ===== a loop with a counter ===== -/
theorem loopW {p : Program} {l : Launch} {e : Env} {R : Room} {s : State} {m : MethodId} {args : Array Value} {below : List Frame} {meth : Method} {c : Code} {cells slots : Nat} {Q : State → Prop} {pc : Nat} {st : List Value} {σ : Type} {N : Nat} (Inv : Nat → σ → Heap → List Loc → Array Slot → Prop)
    (step : ∀ (i : Nat) (x : σ) (H : Heap) (locs : List Loc) (ls : Array Slot), i ≤ N → Inv i x H locs ls → (∀ (x' : σ) (H' : Heap) (locs' : List Loc) (ls' : Array Slot), i < N → Inv (i + 1) x' H' locs' ls' → W p l e R s m args below meth c H' locs' cells slots Q (F0 m pc ls' st)) → W p l e R s m args below meth c H locs cells slots Q (F0 m pc ls st))
    (x : σ) (H : Heap) (locs : List Loc) (ls : Array Slot) (h : Inv 0 x H locs ls) : W p l e R s m args below meth c H locs cells slots Q (F0 m pc ls st) := by
  have K : ∀ (n i : Nat) (x : σ) (H : Heap) (locs : List Loc) (ls : Array Slot), i ≤ N → N < i + n → Inv i x H locs ls → W p l e R s m args below meth c H locs cells slots Q (F0 m pc ls st) := by
    intro n
    induction n with
    | zero => intro i x H locs ls h1 h2; exact absurd h2 (by omega)
    | succ n ih =>
      intro i x H locs ls h1 h2 hI
      exact step i x H locs ls h1 hI (fun x' H' locs' ls' hlt hI' => ih (i + 1) x' H' locs' ls' hlt (by omega) hI')
  exact K (N + 1) 0 x H locs ls (Nat.zero_le _) (by omega) h
theorem lt_of_nle {i N : Nat} {k : Int32} (hk : k = nI N ∧ N < 2 ^ 31) (h : ¬ k ≤ nI i) (hi : i ≤ N) : i < N := by
  rcases Nat.lt_or_ge i N with q | q
  · exact q
  · exact absurd (by rw [hk.1]; exact nI_le q (by omega)) h
theorem fa_lt (a b : Int32) : a < b ↔ a.toInt < b.toInt := Int32.lt_iff_toInt_lt
theorem fa_le (a b : Int32) : a ≤ b ↔ a.toInt ≤ b.toInt := Int32.le_iff_toInt_le
theorem fa_eq (a b : Int32) : a = b ↔ a.toInt = b.toInt := ⟨fun h => by rw [h], fun h => Int32.toInt_inj.mp h⟩
theorem sw_cases (x : Int32) (lo n : Nat) (hn : n < 2 ^ 31) : (x.toInt < (lo : Int) ∨ (n : Int) < x.toInt) ∨ ∃ j : Nat, lo ≤ j ∧ j ≤ n ∧ x = nI j := by
  rcases Int.lt_or_le x.toInt (lo : Int) with h | h
  · exact Or.inl (Or.inl h)
  · rcases Int.lt_or_le (n : Int) x.toInt with k | k
    · exact Or.inl (Or.inr k)
    · refine Or.inr ⟨x.toInt.toNat, by omega, by omega, ?_⟩
      rw [fa_eq, nI_toInt (by omega)]
      omega
/-! ===== what one call on a new object answers ===== -/
def f_end (n : Int32) : Int32 := if n = 0 then 0 else -1
def f_force (n : Int32) : Int32 := if n = -1 then -1 else -2
def f_image (k : Int32) : Int32 := if 0 ≤ k ∧ k ≤ 3 then 0 else -1
def f_seed (x : Int32) : Int32 := if x < 0 then -1 else 0
def f_note (n : Int32) : Int32 := if n = -1 then 0 else -2
def f_cos (x : Int32) : Int32 := if x = 7 ∨ x = 10 ∨ x = 11 ∨ x = 12 ∨ x = 13 ∨ x = 14 ∨ x = 15 then 0 else -1
def f_count (x : Int32) : Int32 := if x = 0 ∨ x = 1 ∨ x = 2 ∨ x = 3 ∨ x = 4 ∨ x = 5 ∨ x = 16 ∨ x = 17 ∨ x = 18 ∨ x = 19 then 0 else f_cos x
theorem f_cos_out {x : Int32} (h : x.toInt < 7 ∨ 15 < x.toInt) : f_cos x = -1 := by
  unfold f_cos
  rw [if_neg]
  intro hc
  rcases hc with rfl | rfl | rfl | rfl | rfl | rfl | rfl <;> revert h <;> decide
theorem f_count_cos {x : Int32} (h : x.toInt < 0 ∨ 19 < x.toInt) : f_count x = f_cos x := by
  unfold f_count
  rw [if_neg]
  intro hc
  rcases hc with rfl | rfl | rfl | rfl | rfl | rfl | rfl | rfl | rfl | rfl <;> revert h <;> decide
theorem f_count_out {x : Int32} (h : x.toInt < 0 ∨ 19 < x.toInt) : f_count x = -1 := by
  rw [f_count_cos h]
  exact f_cos_out (by omega)
/-! ===== many new names as the values of one function ===== -/
def pk {α : Type} (d : α) : List α → Nat → α
  | [], _ => d
  | a :: _, 0 => a
  | _ :: l, n + 1 => pk d l n
theorem i_of {ws : List Cond} (h : ws.all (fun w => decide (w ∈ lw_tbl) && goodWord w) = true) : ∀ w ∈ ws, w ∈ gT := fun w hw => by
  have h1 := List.all_eq_true.mp h w hw
  simp only [Bool.and_eq_true, decide_eq_true_eq] at h1
  exact gT_in h1.1 h1.2
