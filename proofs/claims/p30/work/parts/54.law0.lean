theorem dL_law_1119 : decode cL_law 1119 = .ok (.iinc 3 6, 3) := by decide +kernel
theorem dL_law_1122 : decode cL_law 1122 = .ok (.goto (-1104), 3) := by decide +kernel
/-! ===== the law ===== -/
section TL
variable {p : Program} {l : Launch} {e : Env} {R : Room} {s : State} {m : MethodId} {args : Array Value} {below : List Frame} {meth : Method} {c : Code} {H : Heap} {locs : List Loc} {cells slots : Nat} {Q : State → Prop}
variable {pc : Nat} {ls : Array Slot} {rest st0 : List Value} {D : va_G} {A : Nat → Prop} {tys : List (ClassId × FieldType)} {κ : tK} {B : Nat} {ws : va_W}
theorem t_calliA {mc ms : Nat} {a : Array Value} {post : Int32 → (va_W × tK × List (ClassId × FieldType)) → Prop} (hr : va_Run p l e R s m args below meth c H locs cells slots mc ms (F0 m pc ls st0) rest (va_Qi post (fun u t => cPost D u.2.2 u.1 (va_A ws H.size) t) (va_A ws H.size) a) (va_A ws H.size)) (hw : tW D tys κ B A s ws H locs) (hA : ∀ q, s.heap.size ≤ q → A q) (hT : ∀ r u, post r u → Ty u.2.1 u.2.2 B u.1)
    (kk : ∀ (r : Int32) (u : va_W × tK × List (ClassId × FieldType)) (H1 : Heap) (locs1 : List Loc), post r u → tW D u.2.2 u.2.1 B A s u.1 H1 locs1 → W p l e R s m args below meth c H1 locs1 (cells + mc) (slots + ms) Q (F0 m (pc + 3) ls (.int r :: rest))) : W p l e R s m args below meth c H locs cells slots Q (F0 m pc ls st0) :=
  va_calli hr hw.2.2.2.1 (fun q _ h => hw.free hA q h) (hw.free hA) (fun r u t H1 locs1 ht hvm hp hB _ _ hS1 => kk r u H1 locs1 hp ⟨va_K.moved hvm.symm hB.2.1, by rw [← ht]; exact hB.1, hB.2.2.weaken (fun _ _ _ h => hw.free hA _ h), hS1, hT r u hp⟩)
end TL
section TM
variable {A : Nat → Prop} {M : List (Nat × Nat)} {MA : List Nat} {κ κ' : tK} {w w' w1 w2 : va_W} {a0 aX aM v : Nat} {x y a r1 r2 : Int32} {xs : Nat → Int32} {ms : Nat → Prop}
theorem refs_cAt {f : Nat → Option Nat} (h : refs w a0 f) (hk : ∀ e : va_E, cAt w a0 e → cAt w' a0 e) : refs w' a0 f := by
  obtain ⟨q, cA, n, h1⟩ := h
  obtain ⟨q', h2⟩ := hk _ ⟨q, h1⟩
  exact ⟨q', cA, n, h2⟩
theorem BXS.app (h : BXS κ w a0 x xs ms) : BXS κ (w ++ w1) a0 x xs ms := by
  obtain ⟨nw, im, f, f1, k1, f2, f3, k2, r1, hi, hj⟩ := h
  refine ⟨nw, im, f, f1.app, k1, f2.app, f3.app, k2, refs_cAt r1 (fun _ z => z.app), fun j hj4 => ?_, hj⟩
  obtain ⟨iw, m, g1, g2, g3, g4, g5, g6⟩ := hi j hj4
  exact ⟨iw, m, g1, g2, g3, g4.app, g5, fun z => (g6 z).app⟩
theorem BXS.gr (h : BXS κ w a0 x xs ms) (hG : Gr κ κ' w w' v) (hn : κ v = none) (k0 : κ a0 = some 11) : BXS κ' w' a0 x xs ms := by
  obtain ⟨nw, im, f, f1, k1, f2, f3, k2, r1, hi, hj⟩ := h
  refine ⟨nw, im, f, hG.fld (nk k0 hn) f1, hG.1 _ _ k1, hG.fld (nk k1 hn) f2, hG.fld (nk k0 hn) f3, hG.1 _ _ k2, refs_cAt r1 (fun _ z => (hG.2 _ _ (nk k2 hn) z).1), fun j hj4 => ?_, hj⟩
  obtain ⟨iw, m, g1, g2, g3, g4, g5, g6⟩ := hi j hj4
  exact ⟨iw, m, g1, hG.1 _ _ g2, g3, hG.fld (nk g2 hn) g4, g5, fun z => hG.fld (nk g2 hn) (g6 z)⟩
theorem seed_both (g1 : (a.toInt < 0 ∧ r1 = -1 ∧ BXS κ w1 aX x xs ms) ∨ (0 ≤ a.toInt ∧ r1 = x ∧ BXS κ w1 aX a xs ms)) (hm : Sm M MA κ w1 w2) (hM : ∀ x ∈ M, x ∉ bF) (hA : ∀ x ∈ MA, x ∉ bK) (g2 : (a.toInt < 0 ∧ r2 = -1 ∧ MXS κ w2 aM x xs ms) ∨ (0 ≤ a.toInt ∧ r2 = x ∧ MXS κ w2 aM a xs ms)) : r1 = r2 ∧ ∃ z : Int32, BXS κ w2 aX z xs ms ∧ MXS κ w2 aM z xs ms := by
  rcases g1 with ⟨q1, q2, q3⟩ | ⟨q1, q2, q3⟩
  · rcases g2 with ⟨p1, p2, p3⟩ | ⟨p1, p2, p3⟩
    · exact ⟨q2.trans p2.symm, x, q3.sm hm hM hA, p3⟩
    · omega
  · rcases g2 with ⟨p1, p2, p3⟩ | ⟨p1, p2, p3⟩
    · omega
    · exact ⟨q2.trans p2.symm, a, q3.sm hm hM hA, p3⟩
theorem image_both (g1 : (∃ j : Nat, j < 4 ∧ (j : Int) = a.toInt ∧ BXS κ w1 aX x (upd xs j x) (fun i => i = j ∨ ms i)) ∨ ((∀ j : Nat, j < 4 → ¬ (j : Int) = a.toInt) ∧ BXS κ w1 aX x xs ms)) (hm : Sm M MA κ w1 w2) (hM : ∀ x ∈ M, x ∉ bF) (hA : ∀ x ∈ MA, x ∉ bK) (g2 : (∃ j : Nat, j < 4 ∧ (j : Int) = a.toInt ∧ MXS κ w2 aM x (upd xs j x) (fun i => i = j ∨ ms i)) ∨ ((∀ j : Nat, j < 4 → ¬ (j : Int) = a.toInt) ∧ MXS κ w2 aM x xs ms)) : ∃ (z : Int32) (zs : Nat → Int32) (ns : Nat → Prop), BXS κ w2 aX z zs ns ∧ MXS κ w2 aM z zs ns := by
  rcases g1 with ⟨j, q1, q2, q3⟩ | ⟨q1, q3⟩
  · rcases g2 with ⟨i, p1, p2, p3⟩ | ⟨p1, p3⟩
    · have e : i = j := by omega
      subst e
      exact ⟨_, _, _, q3.sm hm hM hA, p3⟩
    · exact absurd q2 (p1 j q1)
  · rcases g2 with ⟨i, p1, p2, p3⟩ | ⟨p1, p3⟩
    · exact absurd p2 (q1 i p1)
    · exact ⟨_, _, _, q3.sm hm hM hA, p3⟩
theorem back_both (g1 : (∃ j : Nat, j < 4 ∧ (j : Int) = a.toInt ∧ ms j ∧ BXS κ w1 aX (xs j) xs ms) ∨ ((∀ j : Nat, j < 4 → (j : Int) = a.toInt → ¬ ms j) ∧ BXS κ w1 aX x xs ms)) (hm : Sm M MA κ w1 w2) (hM : ∀ x ∈ M, x ∉ bF) (hA : ∀ x ∈ MA, x ∉ bK) (g2 : (∃ j : Nat, j < 4 ∧ (j : Int) = a.toInt ∧ ms j ∧ MXS κ w2 aM (xs j) xs ms) ∨ ((∀ j : Nat, j < 4 → (j : Int) = a.toInt → ¬ ms j) ∧ MXS κ w2 aM x xs ms)) : ∃ (z : Int32) (zs : Nat → Int32) (ns : Nat → Prop), BXS κ w2 aX z zs ns ∧ MXS κ w2 aM z zs ns := by
  rcases g1 with ⟨j, q1, q2, q4, q3⟩ | ⟨q1, q3⟩
  · rcases g2 with ⟨i, p1, p2, p4, p3⟩ | ⟨p1, p3⟩
    · have e : i = j := by omega
      subst e
      exact ⟨_, _, _, q3.sm hm hM hA, p3⟩
    · exact absurd q4 (p1 j q1 q2)
  · rcases g2 with ⟨i, p1, p2, p4, p3⟩ | ⟨p1, p3⟩
    · exact absurd p4 (q1 i p1 p2)
    · exact ⟨_, _, _, q3.sm hm hM hA, p3⟩
end TM
theorem sc_int {k : Nat} {j : Int32} {J : Nat} (hk : k ≤ 600) (hj : j.toInt = (J : Int)) (hJ : J ≤ 10) : (nI (6 * k) + j).toInt = 6 * (k : Int) + J := by
  have h1 : (nI (6 * k)).toInt = ((6 * k : Nat) : Int) := nI_toInt (by omega)
  rw [ad_i (z := nI (6 * k) + j) rfl h1 hj (by omega) (by omega)]
  omega
theorem sc_ix {k : Nat} {j : Int32} {J : Nat} (hk : k ≤ 600) (hj : j.toInt = (J : Int)) (hJ : J ≤ 10) : (nI (6 * k) + j).toNatClampNeg = 6 * k + J := by
  rw [clamp_toInt, sc_int hk hj hJ]
  omega
theorem sc_in {k L : Nat} {j : Int32} {J : Nat} (hk : k ≤ 600) (hj : j.toInt = (J : Int)) (hJ : J ≤ 10) (h : 6 * k + J < L) : vp_in (nI (6 * k) + j) L := by
  have h1 := sc_int hk hj hJ
  exact in_of (by omega) (by omega)
theorem sc_ix0 {k : Nat} (hk : k ≤ 600) : (nI (6 * k)).toNatClampNeg = 6 * k := by
  have h1 : (nI (6 * k)).toInt = ((6 * k : Nat) : Int) := nI_toInt (by omega)
  rw [clamp_toInt, h1]
  omega
theorem sc_in0 {k L : Nat} (hk : k ≤ 600) (h : 6 * k < L) : vp_in (nI (6 * k)) L := by
  have h1 : (nI (6 * k)).toInt = ((6 * k : Nat) : Int) := nI_toInt (by omega)
  exact in_of (by omega) (by omega)
theorem sc_next (k : Nat) : nI (6 * k) + 6 = nI (6 * (k + 1)) := by
  rw [show (6 : Int32) = nI 6 from rfl, nI_add]
  rfl
/-- between two calls of the script -/
def LInv (D : va_G) (A : Nat → Prop) (s : State) (b aX aM k : Nat) (H : Heap) (locs : List Loc) (ls : Array Slot) : Prop := ∃ (tys : List (ClassId × FieldType)) (κ : tK) (B : Nat) (w : va_W) (x : Int32) (ys : Nat → Int32) (ms : Nat → Prop), tW D tys κ B A s w H locs ∧ κ aX = some 11 ∧ κ aM = some 12 ∧ BXS κ w aX x ys ms ∧ MXS κ w aM x ys ms ∧ RT κ w aM ∧ DY κ w aM ∧ lv_has ls 4 [(3, .int (nI (6 * k))), (2, .ref aM), (1, .ref aX), (0, .ref b)]
/-! THE CLAIM OUT OF ONE WALK OF THE LAW'S BODY. Your part is whole_start (and what it stands on); all else here is the same for every law, but numbers. -/
def R_law : String := "BoyBishopLaw"
def lw_P (b : Addr) (xs : List Int32) (args : Array Value) (s : State) : Prop := args = #[.ref b] ∧ s.IntsAt b xs ∧ xs.length ≤ 3072 ∧ (Jvm.Cond.and given_1 narrow_1).before args s = true
def lw_Q (_ : Array Value) (s : State) (o : Outcome) (t : State) : Prop := o = .returned (some (.int 1)) ∧ Framed s o t [] 600000 7302250
def lw_Z (below : List Frame) (a : Array Value) (s : State) : State → Prop := fun t => ∃ o, t.status = .running ∧ Ended t below o ∧ lw_Q a s o t
/-- the law's own end, with 1 on the stack, nothing written that was there before, its room as the claim has it -/
theorem lw_ret {p : Program} {l : Launch} {e : Env} {s : State} {m : MethodId} {below : List Frame} {meth : Method} {c : Code} {b : Nat} (hx : p.tables.exec = Jvm.exec) (hb : c.code = code) (hr : meth.sig.returnType = ret) (hlocks : meth.locks = false) {pc : Nat} {H : Heap} {ls : Array Slot} (hdg : decode code pc = .ok (.ireturn, 1)) : W p l e room_1 s m #[Value.ref b] below meth c H [] 600000 7302250 (lw_Z below #[Value.ref b] s) (F0 m pc ls [.int 1]) := by
  intro T hT X
  obtain ⟨fs, hret, hrun, hended, hW, hframe⟩ := X.leave (v := some (.int 1)) (hlocks := hlocks) (fun h => by rw [hr] at h; cases h)
  have hmeth' : T.vm.method? m = some meth := X.method'
  refine ⟨T.setFrames fs, ?_, .returned (some (.int 1)), hrun, hended, rfl, ⟨_, rfl⟩, hW, hframe⟩
  jvm_step X.here [X.here.top, hx, hb, hdg, hmeth', hr, ret, narrow_b1]
  (try refine ⟨rfl, ?_⟩); (try refine ⟨rfl, ?_⟩)
  first | (intro acts; rw [hret _ acts rfl rfl rfl]) | rw [hret _ _ rfl rfl rfl]
  exact Steps.refl _
/-- what holds at the law's entry: the machine, the code, the tables' words (any of lw_tbl by 'hts w (by decide +kernel)'), the script of L ints xs at the cell b, what the Statement gives of the start (any of its parts by flat_of_before) -/
def lw_At (p : Program) (s : State) (m : MethodId) (meth : Method) (c : Code) (b L : Nat) (xs : Nat → Int32) : Prop :=
  p.tables.exec = Jvm.exec ∧ c.code = code ∧ meth.sig.returnType = ret ∧ c.maxLocals = 4 ∧ s.vm.findClass R_law = some m.cls ∧ (∀ w ∈ lw_tbl, w.before #[Value.ref b] s = true) ∧ va_X b L xs s s.heap ∧ b < s.heap.size ∧ meth.locks = false ∧ (Jvm.Cond.and given_1 narrow_1).before #[Value.ref b] s = true
set_option maxHeartbeats 4000000 in
theorem law_next {p : Program} {l : Launch} {e : Env} {s : State} {m : MethodId} {below : List Frame} {meth : Method} {c : Code} {dC : Nat → ClassId} {dI : Nat → Nat → Nat} {b L : Nat} {xs : Nat → Int32} (C0 : lw_At p s m meth c b L xs) (A : Nat → Prop) (hAe : A = fun q : Nat => s.heap.size ≤ q) (aX aM k cs sl : Nat) (hk : 6 * k + 6 ≤ L) (hkk : k ≤ 512) (next : ∀ (H : Heap) (locs : List Loc) (ls : Array Slot), LInv (dC, dI) A s b aX aM (k + 1) H locs ls → W p l e room_1 s m #[Value.ref b] below meth c H locs (cs + 11) (sl + 200) (lw_Z below #[Value.ref b] s) (F0 m 18 ls [])) (H : Heap) (locs : List Loc) (ls : Array Slot) {cells slots : Nat} (h1 : cells ≤ cs + 11) (h2 : slots ≤ sl + 200) (hI : LInv (dC, dI) A s b aX aM k H locs ls) : W p l e room_1 s m #[Value.ref b] below meth c H locs cells slots (lw_Z below #[Value.ref b] s) (F0 m 1119 ls []) := by
  obtain ⟨hx, hb, hr, hml, hown, hts0, hX, hbl, hlocks, hgv⟩ := id C0
  obtain ⟨tys, κ, B, w, x, ys, ms, hw, kX, kM, hBX, hMX, hRT, hDY, hl⟩ := hI
  refine lv_iinc (v := nI (6 * (k + 1))) (lv' := [(3, .int (nI (6 * (k + 1)))), (2, .ref aM), (1, .ref aX), (0, .ref b)]) hx hb dL_law_1119 hl (k := 0) rfl (sc_next k) (by decide) rfl (fun ls hl => ?_)
  refine lv_goto (tgt := 18) hx hb dL_law_1122 (by decide) ?_
  refine W.widen (k := cs + 11) (n := sl + 200) h1 h2 ?_
  exact next H locs ls ⟨tys, κ, B, w, x, ys, ms, hw, kX, kM, hBX, hMX, hRT, hDY, hl⟩
