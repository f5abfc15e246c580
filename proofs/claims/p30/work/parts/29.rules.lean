/-! ===== the reference's rules: what their signs do to the stack ===== -/
theorem updNe {f : Nat → Int32} {k j : Nat} {x : Int32} (h : j ≠ k) : upd f k x j = f j := by simp [upd, h]
theorem updAt {f : Nat → Int32} {k : Nat} {x : Int32} : upd f k x k = x := by simp [upd]
def sx (x : Int32) : Int := (x &&& 15).toInt
def vx (x : Int32) : Int := (x >>> (4 &&& 31)).toInt
def stH (x : Int32) (d : Int) : Int := if sx x = 0 ∨ sx x = 1 then d + 1 else if sx x = 11 then d else d - 1
def stOK (x : Int32) (d : Int) : Prop := (sx x = 1 → 0 ≤ vx x ∧ vx x ≤ 10) ∧ ((sx x = 0 ∨ sx x = 1) → d ≤ 60) ∧ (sx x = 11 → 1 ≤ d) ∧ (sx x ≠ 0 → sx x ≠ 1 → sx x ≠ 11 → 2 ≤ d)
theorem stH_cases (x : Int32) (d : Int) : ((sx x = 0 ∨ sx x = 1) ∧ stH x d = d + 1) ∨ (sx x = 11 ∧ stH x d = d) ∨ (sx x ≠ 0 ∧ sx x ≠ 1 ∧ sx x ≠ 11 ∧ stH x d = d - 1) := by
  unfold stH
  by_cases h : sx x = 0 ∨ sx x = 1
  · rw [if_pos h]; exact Or.inl ⟨h, rfl⟩
  · rw [if_neg h]
    by_cases h2 : sx x = 11
    · rw [if_pos h2]; exact Or.inr (Or.inl ⟨h2, rfl⟩)
    · rw [if_neg h2]; exact Or.inr (Or.inr ⟨fun z => h (Or.inl z), fun z => h (Or.inr z), h2, rfl⟩)
theorem sv_of {x : Int32} {S V : Int} (hx : x.toInt = S + 16 * V) (h0 : 0 ≤ S) (h1 : S ≤ 15) (h2 : 0 ≤ V) (h3 : V ≤ 99999) : sx x = S ∧ vx x = V := by
  have hn : nI x.toInt.toNat = x := nI_back (by omega)
  constructor
  · have h4 : x &&& 15 = nI (x.toInt.toNat % 2 ^ 4) := by
      have := pk_andN (n := x.toInt.toNat) (m := 15) (by omega) 4 (by decide)
      rw [hn] at this
      exact this
    unfold sx
    rw [h4, nI_toInt (by omega)]
    omega
  · unfold vx
    rw [pk_shr x (4 &&& 31) 4 (by decide), hx, Int.shiftRight_eq_div_pow, show ((2 ^ 4 : Nat) : Int) = 16 by decide]
    omega
def hgt (g : Nat → Int32) (b : Nat) : Nat → Int
  | 0 => 0
  | n + 1 => stH (g (b + n)) (hgt g b n)
theorem hgt_congr {g g' : Nat → Int32} {b : Nat} : ∀ {n : Nat}, (∀ i, i < n → g (b + i) = g' (b + i)) → hgt g b n = hgt g' b n
  | 0, _ => rfl
  | n + 1, h => by
    simp only [hgt]
    rw [hgt_congr (n := n) (fun i hi => h i (by omega)), h n (by omega)]
def sok (g : Nat → Int32) (b n : Nat) : Prop := ∀ i, i < n → stOK (g (b + i)) (hgt g b i)
theorem sok_congr {g g' : Nat → Int32} {b n : Nat} (h : ∀ i, i < n → g (b + i) = g' (b + i)) (hs : sok g b n) : sok g' b n := fun i hi => by
  rw [← h i hi, ← hgt_congr (g := g) (n := i) (fun j hj => h j (by omega))]
  exact hs i hi
theorem sok_snoc {g : Nat → Int32} {b n : Nat} (h : sok g b n) (h1 : stOK (g (b + n)) (hgt g b n)) : sok g b (n + 1) := fun i hi => by
  by_cases hq : i = n
  · subst hq; exact h1
  · exact h i (by omega)
def seg (g : Nat → Int32) (t : Nat) (b e : Int) : Prop := 0 ≤ b ∧ b ≤ e ∧ e ≤ 400 ∧ sok g (400 * t + b.toNat) (e - b).toNat ∧ hgt g (400 * t + b.toNat) (e - b).toNat = 1
theorem seg_congr {g g' : Nat → Int32} {t : Nat} {b e : Int} (h : seg g t b e) (hc : ∀ j : Nat, 400 * t ≤ j → (j : Int) < 400 * t + e → g j = g' j) : seg g' t b e := by
  obtain ⟨h0, h1, h2, h3, h4⟩ := h
  have hq : ∀ i, i < (e - b).toNat → g (400 * t + b.toNat + i) = g' (400 * t + b.toNat + i) := fun i hi => hc _ (by omega) (by omega)
  exact ⟨h0, h1, h2, sok_congr hq h3, by rw [← hgt_congr hq]; exact h4⟩
theorem seg_upd {g : Nat → Int32} {t t0 : Nat} {b e L : Int} {x : Int32} (h : seg g t b e) (hL : 0 ≤ L) (hL2 : L ≤ 399) (ht : t ≠ t0 ∨ e ≤ L) : seg (upd g (400 * t0 + L.toNat) x) t b e :=
  seg_congr h (fun j h1 h2 => (updNe (by have := h.2.2.1; omega)).symm)
/-- the height before sign i -/
def hg (g : Nat → Int32) (t : Nat) (b i : Int) : Int := hgt g (400 * t + b.toNat) (i - b).toNat
theorem seg_step {g : Nat → Int32} {t : Nat} {b e i : Int} {j : Nat} (h : seg g t b e) (h1 : b ≤ i) (h2 : i < e) (hj : (j : Int) = 400 * t + i) : stOK (g j) (hg g t b i) ∧ hg g t b (i + 1) = stH (g j) (hg g t b i) := by
  obtain ⟨q0, q1, q2, q3, q4⟩ := h
  have e1 : 400 * t + b.toNat + (i - b).toNat = j := by omega
  have h3 := q3 (i - b).toNat (by omega)
  rw [e1] at h3
  refine ⟨h3, ?_⟩
  unfold hg
  rw [show (i + 1 - b).toNat = (i - b).toNat + 1 by omega]
  simp only [hgt]
  rw [e1]
theorem seg_begin {g : Nat → Int32} {t : Nat} {b : Int} : hg g t b b = 0 := by
  unfold hg
  rw [show (b - b).toNat = 0 by omega]
  rfl
theorem seg_end {g : Nat → Int32} {t : Nat} {b e : Int} (h : seg g t b e) : hg g t b e = 1 := h.2.2.2.2
/-- told rules, by their arrays -/
def RTc (g fq fn : Nat → Int32) : Prop := ∀ t : Nat, t < 6 → (fn t).toInt ≤ 12 ∧ ∀ c : Nat, (c : Int) < (fn t).toInt → seg g t (fq (48 * t + 4 * c)).toInt (fq (48 * t + 4 * c + 1)).toInt ∧ ((fq (48 * t + 4 * c + 2)).toInt < 0 ∨ seg g t (fq (48 * t + 4 * c + 2)).toInt (fq (48 * t + 4 * c + 3)).toInt)
/-- a text t that is being read: its signs from b on leave h numbers; a piece pb to pe stands already -/
def PSc (g fl fq fn : Nat → Int32) (t : Nat) (pb pe b h φ nc : Int) : Prop := t < 6 ∧ RTc g fq fn ∧ 0 ≤ (fl t).toInt ∧ (fl t).toInt ≤ φ ∧ (∀ c : Nat, (c : Int) < (fn t).toInt → (fq (48 * t + 4 * c + 1)).toInt ≤ (fl t).toInt ∧ (fq (48 * t + 4 * c + 3)).toInt ≤ (fl t).toInt) ∧ (pe < 0 ∨ (seg g t pb pe ∧ pe ≤ (fl t).toInt)) ∧ 0 ≤ b ∧ b ≤ (fl t).toInt ∧ sok g (400 * t + b.toNat) ((fl t).toInt - b).toNat ∧ hgt g (400 * t + b.toNat) ((fl t).toInt - b).toNat = h ∧ (fn t).toInt = nc
theorem PSc.puts {g fl fq fn : Nat → Int32} {t : Nat} {pb pe b h φ nc : Int} (hp : PSc g fl fq fn t pb pe b h φ nc) (hφ : φ ≤ 399) {x y : Int32} (hx : stOK x h) (hy : y.toInt = (fl t).toInt + 1) : PSc (upd g (400 * t + (fl t).toInt.toNat) x) (upd fl t y) fq fn t pb pe b (stH x h) (φ + 1) nc := by
  obtain ⟨h1, h2, h3, h4, h5, h6, h7, h8, h9, h10, h11⟩ := hp
  have hn : ((fl t).toInt + 1 - b).toNat = ((fl t).toInt - b).toNat + 1 := by omega
  have hq : ∀ i, i < ((fl t).toInt - b).toNat → g (400 * t + b.toNat + i) = upd g (400 * t + (fl t).toInt.toNat) x (400 * t + b.toNat + i) := fun i hi => (updNe (by omega)).symm
  have hz : upd g (400 * t + (fl t).toInt.toNat) x (400 * t + b.toNat + ((fl t).toInt - b).toNat) = x := by
    rw [show 400 * t + b.toNat + ((fl t).toInt - b).toNat = 400 * t + (fl t).toInt.toNat by omega]
    exact updAt
  have hh : hgt (upd g (400 * t + (fl t).toInt.toNat) x) (400 * t + b.toNat) ((fl t).toInt - b).toNat = h := by
    rw [← hgt_congr hq]
    exact h10
  unfold PSc
  rw [updAt (f := fl), hy]
  refine ⟨h1, fun t' ht' => ⟨(h2 t' ht').1, fun c hc => ?_⟩, by omega, by omega, fun c hc => ?_, ?_, h7, by omega, ?_, ?_, h11⟩
  · obtain ⟨g1, g2⟩ := (h2 t' ht').2 c hc
    have ho : t' ≠ t ∨ ((fq (48 * t' + 4 * c + 1)).toInt ≤ (fl t).toInt ∧ (fq (48 * t' + 4 * c + 3)).toInt ≤ (fl t).toInt) := by
      by_cases hq : t' = t
      · subst hq; exact Or.inr (h5 c hc)
      · exact Or.inl hq
    refine ⟨seg_upd g1 h3 (by omega) (ho.imp id And.left), ?_⟩
    rcases g2 with g2 | g2
    · exact Or.inl g2
    · exact Or.inr (seg_upd g2 h3 (by omega) (ho.imp id And.right))
  · have := h5 c hc
    exact ⟨by omega, by omega⟩
  · rcases h6 with h6 | ⟨h6, h6'⟩
    · exact Or.inl h6
    · exact Or.inr ⟨seg_upd h6 h3 (by omega) (Or.inr h6'), by omega⟩
  · rw [hn]
    exact sok_snoc (sok_congr hq h9) (by rw [hz, hh]; exact hx)
  · rw [hn]
    simp only [hgt]
    rw [hz, hh]
/-! ===== the same in the heap ===== -/
theorem fld_eq {A : Nat → Prop} {w : va_W} {a c k : Nat} {v v' : Value} (hD : va_D A w) (h1 : fld w a c k v) (h2 : fld w a c k v') : v = v' := by
  obtain ⟨q, fs, g1, g2⟩ := h1
  obtain ⟨q', fs', g3, g4⟩ := h2
  have hq : q = q' := hD.1 q q' _ _ g1 g3 rfl
  subst hq
  have e := Sum.inr.inj (congrArg Prod.snd (Option.some.inj (g1.symm.trans g3)))
  have e2 : fs = fs' := congrArg Prod.snd e
  subst e2
  exact Option.some.inj (g2.symm.trans g4)
theorem ref_eq {A : Nat → Prop} {w : va_W} {a c k x y : Nat} (hD : va_D A w) (h1 : fld w a c k (.ref x)) (h2 : fld w a c k (.ref y)) : x = y := by
  have := fld_eq hD h1 h2
  cases this
  rfl
theorem arr_elt {A : Nat → Prop} {w : va_W} {a j : Nat} {f : Nat → Int32} {x : Int32} (hD : va_D A w) (h : arr w a f) (he : elt w a j x) : x = f j := by
  obtain ⟨q, cA, n, g1⟩ := h
  exact elt_eq hD he ⟨q, cA, n, f, g1, rfl⟩
theorem arr_sm {M : List (Nat × Nat)} {MA : List Nat} {κ : tK} {w w' : va_W} {a k : Nat} {f : Nat → Int32} (h : arr w a f) (hm : Sm M MA κ w w') (hk : κ a = some k) (hA : k ∉ MA) : arr w' a f := by
  obtain ⟨q, cA, n, h1⟩ := h
  obtain ⟨q', h2⟩ := hm.2 a k (cA, n, .inl f) hk hA ⟨q, h1⟩
  exact ⟨q', cA, n, h2⟩
theorem arr_up {A : Nat → Prop} {w w' : va_W} {a j : Nat} {x : Int32} {f : Nat → Int32} (u : Up3 w w' a j x) (hD : va_D A w') (h : arr w a f) : arr w' a (upd f j x) := by
  obtain ⟨q', cA', n', f', g1, g2⟩ := u.2.2.2
  have hf : f' = upd f j x := by
    funext i
    by_cases hi : i = j
    · subst hi
      rw [updAt]
      exact g2
    · rw [updNe hi]
      obtain ⟨q, cA, n, h1⟩ := h
      exact elt_eq hD ⟨q', cA', n', f', g1, rfl⟩ (u.2.2.1 a i (f i) ⟨q, cA, n, f, h1, rfl⟩ (Or.inr hi))
  subst hf
  exact ⟨q', cA', n', g1⟩
theorem arr_o {w w' : va_W} {a a' j : Nat} {x : Int32} {f : Nat → Int32} (u : Up3 w w' a j x) (h : arr w a' f) (hn : a' ≠ a) : arr w' a' f := by
  obtain ⟨q, cA, n, h1⟩ := h
  obtain ⟨q', h2⟩ := u.2.1 a' (cA, n, .inl f) ⟨q, h1⟩ hn
  exact ⟨q', cA, n, h2⟩
abbrev rF : List (Nat × Nat) := [(12, 3), (12, 4), (12, 5), (12, 6)]
abbrev rK : List Nat := [55, 56, 57, 58]
def MA4 (κ : tK) (w : va_W) (a0 : Nat) (g fl fq fn : Nat → Int32) : Prop := ∃ s l q n : Nat, fld w a0 12 3 (.ref s) ∧ fld w a0 12 4 (.ref l) ∧ fld w a0 12 5 (.ref q) ∧ fld w a0 12 6 (.ref n) ∧ κ s = some 55 ∧ κ l = some 56 ∧ κ q = some 57 ∧ κ n = some 58 ∧ arr w s g ∧ arr w l fl ∧ arr w q fq ∧ arr w n fn
section MM
variable {A : Nat → Prop} {M : List (Nat × Nat)} {MA : List Nat} {κ : tK} {w w' : va_W} {a0 : Nat} {g fl fq fn o : Nat → Int32} {t : Nat} {pb pe b h φ nc : Int}
theorem MA4.sm (h : MA4 κ w a0 g fl fq fn) (hm : Sm M MA κ w w') (hM : ∀ x ∈ M, x ∉ rF) (hA : ∀ x ∈ MA, x ∉ rK) : MA4 κ w' a0 g fl fq fn := by
  obtain ⟨s, l, q, n, f1, f2, f3, f4, k1, k2, k3, k4, e1, e2, e3, e4⟩ := h
  have nM : ∀ x : Nat × Nat, x ∈ rF → x ∉ M := fun x hx hz => hM x hz hx
  have nA : ∀ x : Nat, x ∈ rK → x ∉ MA := fun x hx hz => hA x hz hx
  exact ⟨s, l, q, n, hm.1 _ _ _ _ f1 (nM _ (by decide)), hm.1 _ _ _ _ f2 (nM _ (by decide)), hm.1 _ _ _ _ f3 (nM _ (by decide)), hm.1 _ _ _ _ f4 (nM _ (by decide)), k1, k2, k3, k4, arr_sm e1 hm k1 (nA _ (by decide)), arr_sm e2 hm k2 (nA _ (by decide)), arr_sm e3 hm k3 (nA _ (by decide)), arr_sm e4 hm k4 (nA _ (by decide))⟩
theorem MA4.ups {a j : Nat} {x : Int32} (h : MA4 κ w a0 g fl fq fn) (hD : va_D A w') (hf : fld w' a0 12 3 (.ref a)) (u : Up3 w w' a j x) : MA4 κ w' a0 (upd g j x) fl fq fn := by
  obtain ⟨s, l, q, n, f1, f2, f3, f4, k1, k2, k3, k4, e1, e2, e3, e4⟩ := h
  have es := ref_eq hD (u.1 _ _ _ _ f1) hf
  subst es
  exact ⟨s, l, q, n, u.1 _ _ _ _ f1, u.1 _ _ _ _ f2, u.1 _ _ _ _ f3, u.1 _ _ _ _ f4, k1, k2, k3, k4, arr_up u hD e1, arr_o u e2 (ne_k k2 k1 (by decide)), arr_o u e3 (ne_k k3 k1 (by decide)), arr_o u e4 (ne_k k4 k1 (by decide))⟩
theorem MA4.upl {a j : Nat} {x : Int32} (h : MA4 κ w a0 g fl fq fn) (hD : va_D A w') (hf : fld w' a0 12 4 (.ref a)) (u : Up3 w w' a j x) : MA4 κ w' a0 g (upd fl j x) fq fn := by
  obtain ⟨s, l, q, n, f1, f2, f3, f4, k1, k2, k3, k4, e1, e2, e3, e4⟩ := h
  have es := ref_eq hD (u.1 _ _ _ _ f2) hf
  subst es
  exact ⟨s, l, q, n, u.1 _ _ _ _ f1, u.1 _ _ _ _ f2, u.1 _ _ _ _ f3, u.1 _ _ _ _ f4, k1, k2, k3, k4, arr_o u e1 (ne_k k1 k2 (by decide)), arr_up u hD e2, arr_o u e3 (ne_k k3 k2 (by decide)), arr_o u e4 (ne_k k4 k2 (by decide))⟩
theorem MA4.upq {a j : Nat} {x : Int32} (h : MA4 κ w a0 g fl fq fn) (hD : va_D A w') (hf : fld w' a0 12 5 (.ref a)) (u : Up3 w w' a j x) : MA4 κ w' a0 g fl (upd fq j x) fn := by
  obtain ⟨s, l, q, n, f1, f2, f3, f4, k1, k2, k3, k4, e1, e2, e3, e4⟩ := h
  have es := ref_eq hD (u.1 _ _ _ _ f3) hf
  subst es
  exact ⟨s, l, q, n, u.1 _ _ _ _ f1, u.1 _ _ _ _ f2, u.1 _ _ _ _ f3, u.1 _ _ _ _ f4, k1, k2, k3, k4, arr_o u e1 (ne_k k1 k3 (by decide)), arr_o u e2 (ne_k k2 k3 (by decide)), arr_up u hD e3, arr_o u e4 (ne_k k4 k3 (by decide))⟩
theorem MA4.upn {a j : Nat} {x : Int32} (h : MA4 κ w a0 g fl fq fn) (hD : va_D A w') (hf : fld w' a0 12 6 (.ref a)) (u : Up3 w w' a j x) : MA4 κ w' a0 g fl fq (upd fn j x) := by
  obtain ⟨s, l, q, n, f1, f2, f3, f4, k1, k2, k3, k4, e1, e2, e3, e4⟩ := h
  have es := ref_eq hD (u.1 _ _ _ _ f4) hf
  subst es
  exact ⟨s, l, q, n, u.1 _ _ _ _ f1, u.1 _ _ _ _ f2, u.1 _ _ _ _ f3, u.1 _ _ _ _ f4, k1, k2, k3, k4, arr_o u e1 (ne_k k1 k4 (by decide)), arr_o u e2 (ne_k k2 k4 (by decide)), arr_o u e3 (ne_k k3 k4 (by decide)), arr_up u hD e4⟩
theorem MA4.getl {a j : Nat} {x : Int32} (h : MA4 κ w a0 g fl fq fn) (hD : va_D A w) (hf : fld w a0 12 4 (.ref a)) (he : elt w a j x) : x = fl j := by
  obtain ⟨s, l, q, n, f1, f2, f3, f4, k1, k2, k3, k4, e1, e2, e3, e4⟩ := h
  have es := ref_eq hD f2 hf
  subst es
  exact arr_elt hD e2 he
theorem MA4.getq {a j : Nat} {x : Int32} (h : MA4 κ w a0 g fl fq fn) (hD : va_D A w) (hf : fld w a0 12 5 (.ref a)) (he : elt w a j x) : x = fq j := by
  obtain ⟨s, l, q, n, f1, f2, f3, f4, k1, k2, k3, k4, e1, e2, e3, e4⟩ := h
  have es := ref_eq hD f3 hf
  subst es
  exact arr_elt hD e3 he
theorem MA4.getn {a j : Nat} {x : Int32} (h : MA4 κ w a0 g fl fq fn) (hD : va_D A w) (hf : fld w a0 12 6 (.ref a)) (he : elt w a j x) : x = fn j := by
  obtain ⟨s, l, q, n, f1, f2, f3, f4, k1, k2, k3, k4, e1, e2, e3, e4⟩ := h
  have es := ref_eq hD f4 hf
  subst es
  exact arr_elt hD e4 he
theorem MA4.gets {a j : Nat} {x : Int32} (h : MA4 κ w a0 g fl fq fn) (hD : va_D A w) (hf : fld w a0 12 3 (.ref a)) (he : elt w a j x) : x = g j := by
  obtain ⟨s, l, q, n, f1, f2, f3, f4, k1, k2, k3, k4, e1, e2, e3, e4⟩ := h
  have es := ref_eq hD f1 hf
  subst es
  exact arr_elt hD e1 he
def RT (κ : tK) (w : va_W) (a0 : Nat) : Prop := ∃ g fl fq fn : Nat → Int32, MA4 κ w a0 g fl fq fn ∧ RTc g fq fn
def PS (κ : tK) (w : va_W) (a0 : Nat) (t : Nat) (pb pe b h φ nc : Int) : Prop := ∃ g fl fq fn : Nat → Int32, MA4 κ w a0 g fl fq fn ∧ PSc g fl fq fn t pb pe b h φ nc
theorem RT.sm (h : RT κ w a0) (hm : Sm M MA κ w w') (hM : ∀ x ∈ M, x ∉ rF) (hA : ∀ x ∈ MA, x ∉ rK) : RT κ w' a0 := by
  obtain ⟨g, fl, fq, fn, h1, h2⟩ := h
  exact ⟨g, fl, fq, fn, h1.sm hm hM hA, h2⟩
theorem PS.sm (hp : PS κ w a0 t pb pe b h φ nc) (hm : Sm M MA κ w w') (hM : ∀ x ∈ M, x ∉ rF) (hA : ∀ x ∈ MA, x ∉ rK) : PS κ w' a0 t pb pe b h φ nc := by
  obtain ⟨g, fl, fq, fn, h1, h2⟩ := hp
  exact ⟨g, fl, fq, fn, h1.sm hm hM hA, h2⟩
theorem PS.rt (hp : PS κ w a0 t pb pe b h φ nc) : RT κ w a0 := by
  obtain ⟨g, fl, fq, fn, h1, h2⟩ := hp
  exact ⟨g, fl, fq, fn, h1, h2.2.1⟩
theorem PS.to {h' φ' : Int} (hp : PS κ w a0 t pb pe b h φ nc) (e1 : h = h') (e2 : φ ≤ φ') : PS κ w a0 t pb pe b h' φ' nc := by
  subst e1
  obtain ⟨g, fl, fq, fn, h1, h2, h3, h4, h5, h6, h7⟩ := hp
  exact ⟨g, fl, fq, fn, h1, h2, h3, h4, Int.le_trans h5 e2, h6, h7⟩
theorem PS.nn (hp : PS κ w a0 t pb pe b h φ nc) : 0 ≤ φ ∧ nc ≤ 12 ∧ t < 6 := by
  obtain ⟨g, fl, fq, fn, h1, h2, h3, h4, h5, h6, h7, h8, h9, h10, h11, h12⟩ := hp
  have := (h3 t h2).1
  exact ⟨by omega, by omega, h2⟩
theorem PS.cn {a : Nat} {x : Int32} (hp : PS κ w a0 t pb pe b h φ nc) (hD : va_D A w) (hf : fld w a0 12 6 (.ref a)) (he : elt w a t x) : x.toInt = nc := by
  obtain ⟨g, fl, fq, fn, h1, h2⟩ := hp
  rw [h1.getn hD hf he]
  exact h2.2.2.2.2.2.2.2.2.2.2
/-- from here on: a new piece -/
theorem PS.restart {a : Nat} {v : Int32} (hp : PS κ w a0 t pb pe b h φ nc) (hD : va_D A w) (hf : fld w a0 12 4 (.ref a)) (he : elt w a t v) : PS κ w a0 t pb pe v.toInt 0 φ nc ∧ 0 ≤ v.toInt ∧ v.toInt ≤ φ ∧ b ≤ v.toInt := by
  obtain ⟨g, fl, fq, fn, h0, h1, h2, h3, h4, h5, h6, h7, h8, h9, h10, h11⟩ := hp
  have e := h0.getl hD hf he
  subst e
  refine ⟨⟨g, fl, fq, fn, h0, h1, h2, h3, h4, h5, h6, h3, Int.le_refl _, ?_, ?_, h11⟩, h3, h4, h8⟩
  · rw [show ((fl t).toInt - (fl t).toInt).toNat = 0 by omega]
    exact fun i hi => absurd hi (by omega)
  · rw [show ((fl t).toInt - (fl t).toInt).toNat = 0 by omega]
    rfl
/-- the piece from b on leaves one number: it stands -/
theorem PS.close {a : Nat} {v : Int32} (hp : PS κ w a0 t pb pe b h φ nc) (hh : h = 1) (hφ : φ ≤ 400) (hD : va_D A w) (hf : fld w a0 12 4 (.ref a)) (he : elt w a t v) : PS κ w a0 t b v.toInt v.toInt 0 φ nc ∧ 0 ≤ v.toInt ∧ v.toInt ≤ φ ∧ b ≤ v.toInt := by
  have hr := (hp.restart hD hf he).2
  obtain ⟨g, fl, fq, fn, h0, h1, h2, h3, h4, h5, h6, h7, h8, h9, h10, h11⟩ := hp
  have e := h0.getl hD hf he
  subst e
  refine ⟨⟨g, fl, fq, fn, h0, h1, h2, h3, h4, h5, Or.inr ⟨⟨h7, h8, by omega, h9, by rw [h10]; exact hh⟩, Int.le_refl _⟩, h3, Int.le_refl _, ?_, ?_, h11⟩, hr⟩
  · rw [show ((fl t).toInt - (fl t).toInt).toNat = 0 by omega]
    exact fun i hi => absurd hi (by omega)
  · rw [show ((fl t).toInt - (fl t).toInt).toNat = 0 by omega]
    rfl
/-- a number of the clause that is not told yet -/
theorem PS.upq {a j : Nat} {x : Int32} (hp : PS κ w a0 t pb pe b h φ nc) (hnc : nc ≤ 11) (hn0 : 0 ≤ nc) (hD : va_D A w') (hf : fld w' a0 12 5 (.ref a)) (u : Up3 w w' a j x) (h1 : 48 * (t : Int) + 4 * nc ≤ j) (h2 : (j : Int) ≤ 48 * t + 4 * nc + 3) : PS κ w' a0 t pb pe b h φ nc := by
  obtain ⟨g, fl, fq, fn, m0, m1, m2, m3, m4, m5, m6, m7, m8, m9, m10, m11⟩ := hp
  have hne : ∀ t' c k : Nat, t' < 6 → (c : Int) < (fn t').toInt → k ≤ 3 → upd fq j x (48 * t' + 4 * c + k) = fq (48 * t' + 4 * c + k) := fun t' c k ht hc hk => updNe (fun z => by
    have h3 := (m2 t' ht).1
    by_cases hq : t' = t
    · subst hq
      omega
    · omega)
  refine ⟨g, fl, upd fq j x, fn, m0.upq hD hf u, m1, fun t' ht' => ⟨(m2 t' ht').1, fun c hc => ?_⟩, m3, m4, fun c hc => ?_, m6, m7, m8, m9, m10, m11⟩
  · have q := (m2 t' ht').2 c hc
    rw [hne t' c 1 ht' hc (by omega), hne t' c 2 ht' hc (by omega), hne t' c 3 ht' hc (by omega), show upd fq j x (48 * t' + 4 * c) = fq (48 * t' + 4 * c) from hne t' c 0 ht' hc (by omega)]
    exact q
  · rw [hne t c 1 m1 hc (by omega), hne t c 3 m1 hc (by omega)]
    exact m5 c hc
/-- a clause is told -/
theorem PS.tell {lA qA nA : Nat} {x0 x1 x2 x3 y : Int32} (hp : PS κ w a0 t pb pe b h φ nc) (hD : va_D A w) (hD' : va_D A w') (hφ : φ ≤ 400) (hnc : nc ≤ 11) (hn0 : 0 ≤ nc) (hfl : fld w a0 12 4 (.ref lA)) (hfq : fld w a0 12 5 (.ref qA)) (hfn : fld w' a0 12 6 (.ref nA)) (hl : elt w lA t x3) (q0 : elt w qA (48 * t + 4 * nc.toNat) x0) (q1 : elt w qA (48 * t + 4 * nc.toNat + 1) x1) (q2 : elt w qA (48 * t + 4 * nc.toNat + 2) x2) (q3 : elt w qA (48 * t + 4 * nc.toNat + 3) x3) (e0 : x0.toInt = pb) (e1 : x1.toInt = pe) (e3 : 0 ≤ pe) (e2 : x2.toInt < 0 ∨ (x2.toInt = b ∧ h = 1)) (u : Up3 w w' nA t y) (hy : y.toInt = nc + 1) : PS κ w' a0 t 0 (-1) x3.toInt 0 φ (nc + 1) := by
  obtain ⟨g, fl, fq, fn, m0, m1, m2, m3, m4, m5, m6, m7, m8, m9, m10, m11⟩ := hp
  have z3 := m0.getl hD hfl hl
  have z0 := m0.getq hD hfq q0
  have z1 := m0.getq hD hfq q1
  have z2 := m0.getq hD hfq q2
  have z4 := m0.getq hD hfq q3
  have ht : upd fn t y t = y := updAt
  have hcn : ∀ c : Nat, (c : Int) < (upd fn t y t).toInt → (c : Int) < (fn t).toInt ∨ c = nc.toNat := fun c hc => by
    rw [ht, hy] at hc
    omega
  refine ⟨g, fl, fq, upd fn t y, m0.upn hD' hfn u, m1, fun t' ht' => ?_, m3, m4, fun c hc => ?_, Or.inl (by decide), ?_, ?_, ?_, ?_, by rw [ht, hy]⟩
  · by_cases hq : t' = t
    · subst hq
      refine ⟨by rw [ht, hy]; omega, fun c hc => ?_⟩
      rcases hcn c hc with hc | hc
      · exact (m2 t' ht').2 c hc
      · subst hc
        rw [← z0, ← z1, ← z2, ← z4, e0, e1]
        refine ⟨?_, ?_⟩
        · rcases m6 with m6 | ⟨m6, -⟩
          · omega
          · exact m6
        · rcases e2 with e2 | ⟨e2, e4⟩
          · exact Or.inl e2
          · refine Or.inr ?_
            rw [e2, z3]
            exact ⟨m7, m8, by omega, m9, by rw [m10]; exact e4⟩
    · rw [updNe hq]
      exact m2 t' ht'
  · rcases hcn c hc with hc | hc
    · exact m5 c hc
    · subst hc
      rw [← z1, ← z4, e1, z3]
      refine ⟨?_, Int.le_refl _⟩
      rcases m6 with m6 | ⟨-, m6⟩
      · omega
      · exact m6
  · rw [z3]; exact m3
  · rw [z3]; exact Int.le_refl _
  · rw [z3, show ((fl t).toInt - (fl t).toInt).toNat = 0 by omega]
    exact fun i hi => absurd hi (by omega)
  · rw [z3, show ((fl t).toInt - (fl t).toInt).toNat = 0 by omega]
    rfl
def RZ (κ : tK) (w : va_W) (a0 : Nat) (t : Nat) : Prop := t < 6 ∧ ∃ g fl fq fn : Nat → Int32, MA4 κ w a0 g fl fq fn ∧ RTc g fq fn ∧ (fn t).toInt = 0
theorem RZ.sm (h : RZ κ w a0 t) (hm : Sm M MA κ w w') (hM : ∀ x ∈ M, x ∉ rF) (hA : ∀ x ∈ MA, x ∉ rK) : RZ κ w' a0 t := by
  obtain ⟨ht, g, fl, fq, fn, h1, h2⟩ := h
  exact ⟨ht, g, fl, fq, fn, h1.sm hm hM hA, h2⟩
theorem RT.zero {a : Nat} {x : Int32} (h : RT κ w a0) (hD : va_D A w') (hf : fld w' a0 12 6 (.ref a)) (u : Up3 w w' a t x) (ht : t < 6) (hx : x.toInt = 0) : RZ κ w' a0 t := by
  obtain ⟨g, fl, fq, fn, h1, h2⟩ := h
  refine ⟨ht, g, fl, fq, upd fn t x, h1.upn hD hf u, fun t' ht' => ?_, by rw [updAt]; exact hx⟩
  by_cases hq : t' = t
  · subst hq
    rw [updAt, hx]
    exact ⟨by omega, fun c hc => absurd hc (by omega)⟩
  · rw [updNe hq]
    exact h2 t' ht'
theorem RT.upl {a j : Nat} {x : Int32} (h : RT κ w a0) (hD : va_D A w') (hf : fld w' a0 12 4 (.ref a)) (u : Up3 w w' a j x) : RT κ w' a0 := by
  obtain ⟨g, fl, fq, fn, h1, h2⟩ := h
  exact ⟨g, _, fq, fn, h1.upl hD hf u, h2⟩
theorem RZ.start {a : Nat} {x : Int32} (h : RZ κ w a0 t) (hD : va_D A w') (hf : fld w' a0 12 4 (.ref a)) (u : Up3 w w' a t x) (hx : x.toInt = 0) : PS κ w' a0 t 0 (-1) 0 0 0 0 := by
  obtain ⟨ht, g, fl, fq, fn, h1, h2, h3⟩ := h
  have hl : upd fl t x t = x := updAt
  refine ⟨g, upd fl t x, fq, fn, h1.upl hD hf u, ht, h2, ?_, ?_, fun c hc => absurd hc (by omega), Or.inl (by decide), Int.le_refl _, ?_, ?_, ?_, h3⟩
  · rw [hl]; omega
  · rw [hl]; omega
  · rw [hl]; omega
  · rw [hl, hx]
    exact fun i hi => absurd hi (by simp)
  · rw [hl, hx]
    rfl
/-- between two lines of a text -/
def CL (κ : tK) (w : va_W) (a0 : Nat) (t m n : Int) : Prop := (t = 6 ∧ RT κ w a0) ∨ (0 ≤ t ∧ t ≤ 5 ∧ ∃ b h : Int, PS κ w a0 t.toNat 0 (-1) b h (6 * m) n)
theorem CL.sm {t m n : Int} (h : CL κ w a0 t m n) (hm : Sm M MA κ w w') (hM : ∀ x ∈ M, x ∉ rF) (hA : ∀ x ∈ MA, x ∉ rK) : CL κ w' a0 t m n := by
  rcases h with ⟨h1, h2⟩ | ⟨h1, h2, b, h, h3⟩
  · exact Or.inl ⟨h1, h2.sm hm hM hA⟩
  · exact Or.inr ⟨h1, h2, b, h, h3.sm hm hM hA⟩
theorem CL.rt {t m n : Int} (h : CL κ w a0 t m n) : RT κ w a0 := by
  rcases h with ⟨h1, h2⟩ | ⟨h1, h2, b, h, h3⟩
  · exact h2
  · exact h3.rt
/-- a call that may fail -/
def Alt (r : Int32) (P Q : Prop) : Prop := (r.toInt = 0 → P) ∧ (¬ r.toInt = 0 → Q)
/-! ===== what is open in a test ===== -/
def cD (o : Nat → Int32) : Nat → Nat
  | 0 => 0
  | n + 1 => cD o n + (if (o n).toInt = 11 ∨ (o n).toInt = 91 then 1 else 0)
theorem cD_le (o : Nat → Int32) : ∀ n : Nat, cD o n ≤ n
  | 0 => Nat.le_refl _
  | n + 1 => by
    have := cD_le o n
    simp only [cD]
    split <;> omega
theorem cD_congr {o o' : Nat → Int32} : ∀ {n : Nat}, (∀ i, i < n → o i = o' i) → cD o n = cD o' n
  | 0, _ => rfl
  | n + 1, h => by
    simp only [cD]
    rw [cD_congr (n := n) (fun i hi => h i (by omega)), h n (by omega)]
def OS (κ : tK) (w : va_W) (a0 : Nat) (o : Nat → Int32) (op dp : Int) : Prop := 0 ≤ op ∧ (∃ a : Nat, fld w a0 12 15 (.ref a) ∧ κ a = some 60 ∧ arr w a o) ∧ (∀ i : Nat, (i : Int) < op → (o i).toInt = 11 ∨ (o i).toInt = 12 ∨ (o i).toInt = 13 ∨ (o i).toInt = 91) ∧ ((cD o op.toNat : Nat) : Int) = dp
theorem OS.sm {op dp : Int} (h : OS κ w a0 o op dp) (hm : Sm M MA κ w w') (hM : (12, 15) ∉ M) (hA : 60 ∉ MA) : OS κ w' a0 o op dp := by
  obtain ⟨h0, ⟨a, h1, h2, h3⟩, h4⟩ := h
  exact ⟨h0, ⟨a, hm.1 _ _ _ _ h1 hM, h2, arr_sm h3 hm h2 hA⟩, h4⟩
theorem OS.at {op dp : Int} {a j : Nat} {x : Int32} (h : OS κ w a0 o op dp) (hD : va_D A w) (hf : fld w a0 12 15 (.ref a)) (he : elt w a j x) : x = o j := by
  obtain ⟨h0, ⟨a', h1, h2, h3⟩, h4⟩ := h
  have es := ref_eq hD h1 hf
  subst es
  exact arr_elt hD h3 he
theorem OS.el {op dp : Int} (h : OS κ w a0 o op dp) (i : Nat) (hi : (i : Int) < op) : (o i).toInt = 11 ∨ (o i).toInt = 12 ∨ (o i).toInt = 13 ∨ (o i).toInt = 91 := h.2.2.1 i hi
theorem OS.popn {op dp : Int} (h : OS κ w a0 o op dp) (h0 : 0 < op) : dp ≤ op ∧ 0 ≤ dp ∧ ((((o (op - 1).toNat).toInt = 11 ∨ (o (op - 1).toNat).toInt = 91) ∧ 1 ≤ dp) ∨ (((o (op - 1).toNat).toInt = 12 ∨ (o (op - 1).toNat).toInt = 13) ∧ dp ≤ op - 1)) := by
  obtain ⟨-, -, h3, h4⟩ := h
  have he := h3 (op - 1).toNat (by omega)
  have hl := cD_le o (op - 1).toNat
  rw [show op.toNat = (op - 1).toNat + 1 by omega] at h4
  simp only [cD] at h4
  by_cases hc : (o (op - 1).toNat).toInt = 11 ∨ (o (op - 1).toNat).toInt = 91
  · rw [if_pos hc] at h4
    exact ⟨by omega, by omega, Or.inl ⟨hc, by omega⟩⟩
  · rw [if_neg hc] at h4
    exact ⟨by omega, by omega, Or.inr ⟨by omega, by omega⟩⟩
theorem OS.popx {op dp op' dp' : Int} (h : OS κ w a0 o op dp) (h0 : 0 < op) (e1 : op' = op - 1) (e2 : (((o (op - 1).toNat).toInt = 11 ∨ (o (op - 1).toNat).toInt = 91) ∧ dp' = dp - 1) ∨ (((o (op - 1).toNat).toInt = 12 ∨ (o (op - 1).toNat).toInt = 13) ∧ dp' = dp)) : OS κ w a0 o op' dp' := by
  obtain ⟨h1, h2, h3, h4⟩ := h
  subst e1
  refine ⟨by omega, h2, fun i hi => h3 i (by omega), ?_⟩
  rw [show op.toNat = (op - 1).toNat + 1 by omega] at h4
  simp only [cD] at h4
  by_cases hc : (o (op - 1).toNat).toInt = 11 ∨ (o (op - 1).toNat).toInt = 91
  · rw [if_pos hc] at h4
    omega
  · rw [if_neg hc] at h4
    omega
theorem OS.zero {dp : Int} (h : OS κ w a0 o 0 dp) : dp = 0 := h.2.2.2.symm
theorem OS.push {op dp op' dp' : Int} {a j : Nat} {x : Int32} (h : OS κ w a0 o op dp) (hD : va_D A w') (hf : fld w' a0 12 15 (.ref a)) (u : Up3 w w' a j x) (hj : (j : Int) = op) (e1 : op' = op + 1) (e2 : ((x.toInt = 11 ∨ x.toInt = 91) ∧ dp' = dp + 1) ∨ ((x.toInt = 12 ∨ x.toInt = 13) ∧ dp' = dp)) : OS κ w' a0 (upd o j x) op' dp' := by
  obtain ⟨h1, ⟨a', h2, h5, h6⟩, h3, h4⟩ := h
  have es := ref_eq hD (u.1 _ _ _ _ h2) hf
  subst es
  have hjn : j = op.toNat := by omega
  refine ⟨by omega, ⟨a', u.1 _ _ _ _ h2, h5, arr_up u hD h6⟩, fun i hi => ?_, ?_⟩
  · by_cases hq : i = j
    · subst hq
      rw [updAt]
      omega
    · rw [updNe hq]
      exact h3 i (by omega)
  · rw [e1, show (op + 1).toNat = j + 1 by omega]
    simp only [cD]
    rw [updAt, cD_congr (o := upd o j x) (o' := o) (n := j) (fun i hi => updNe (by omega))]
    rw [← hjn] at h4
    by_cases hc : x.toInt = 11 ∨ x.toInt = 91
    · rw [if_pos hc]
      omega
    · rw [if_neg hc]
      omega
theorem OS.init {tys : List (ClassId × FieldType)} {B : Nat} (hT : Ty κ tys B w) (hk : κ a0 = some 12) : ∃ o : Nat → Int32, OS κ w a0 o 0 0 := by
  obtain ⟨v, hv, hf⟩ := t_peek (k := 15) hT hk rfl (by decide)
  obtain ⟨a, rfl, ha⟩ := hv.getr (k := 60) rfl
  obtain ⟨q, e0, hq, he⟩ := hT a 60 ha
  obtain ⟨cA, t0, f, ht, rfl, -⟩ := he.i rfl
  exact ⟨f, Int.le_refl _, ⟨a, hf, ha, q, cA, _, hq⟩, fun i hi => absurd hi (by omega), rfl⟩
/-- one told piece, for reckoning -/
def SG (κ : tK) (w : va_W) (a0 t : Nat) (b e : Int) : Prop := ∃ (s : Nat) (g : Nat → Int32), fld w a0 12 3 (.ref s) ∧ κ s = some 55 ∧ arr w s g ∧ seg g t b e
theorem MA4.sg {b e : Int} (h : MA4 κ w a0 g fl fq fn) (hs : seg g t b e) : SG κ w a0 t b e := by
  obtain ⟨s, l, q, n, f1, f2, f3, f4, k1, k2, k3, k4, e1, e2, e3, e4⟩ := h
  exact ⟨s, g, f1, k1, e1, hs⟩
end MM
theorem Sm.of1 {κ : tK} {w w' : va_W} {a c k : Nat} {v : Value} (u : Up1 w w' a c k v) : Sm [(c, k)] [] κ w w' := Sm.rf.up1 u List.mem_cons_self
theorem Sm.of3 {κ : tK} {w w' : va_W} {a j k : Nat} {x : Int32} (u : Up3 w w' a j x) (hk : κ a = some k) : Sm [] [k] κ w w' := Sm.rf.up3 u hk List.mem_cons_self
/-! ===== bits of small sets ===== -/
def bitOf (s k : Int32) : Prop := ((s >>> (k &&& 31)) &&& 1).toInt = 1
def pw (n : Int) : Int := if n = 0 then 1 else if n = 1 then 2 else if n = 2 then 4 else if n = 3 then 8 else if n = 4 then 16 else if n = 5 then 32 else 64
theorem pw_or_all : ∀ b : Nat, b < 6 → ∀ l : Nat, l < 64 → (l : Int) < pw b → ((nI l) ||| (1 <<< (nI b &&& 31))).toInt < pw (b + 1) ∧ 0 ≤ ((nI l) ||| (1 <<< (nI b &&& 31))).toInt := by decide +kernel
theorem pw_up_all : ∀ b : Nat, b < 6 → pw b ≤ pw (b + 1) ∧ pw (b + 1) ≤ 64 := by decide +kernel
theorem pw_bit_all : ∀ n : Nat, n ≤ 6 → ∀ l : Nat, l < 64 → (l : Int) < pw n → l = 0 ∨ ∃ j : Nat, j < n ∧ ((nI l >>> (nI j &&& 31)) &&& 1).toInt = 1 := by decide +kernel
theorem pw_or {l b x r : Int32} (e1 : x = 1 <<< (b &&& 31)) (e2 : r = l ||| x) (h0 : 0 ≤ b.toInt) (h1 : b.toInt ≤ 5) (g0 : 0 ≤ l.toInt) (g1 : l.toInt < pw b.toInt) : r.toInt < pw (b.toInt + 1) ∧ 0 ≤ r.toInt := by
  have hu := pw_up_all b.toInt.toNat (by omega)
  have hb : ((b.toInt.toNat : Nat) : Int) = b.toInt := by omega
  rw [hb] at hu
  have h := pw_or_all b.toInt.toNat (by omega) l.toInt.toNat (by omega) (by rw [hb]; omega)
  rw [nI_back h0, nI_back g0, hb] at h
  subst e1; subst e2
  exact h
theorem pw_or0 {l b : Int32} (h0 : 0 ≤ b.toInt) (h1 : b.toInt ≤ 5) (g1 : l.toInt < pw b.toInt) : l.toInt < pw (b.toInt + 1) := by
  have hu := pw_up_all b.toInt.toNat (by omega)
  rw [show ((b.toInt.toNat : Nat) : Int) = b.toInt by omega] at hu
  omega
theorem pw_le {b : Int32} (h0 : 0 ≤ b.toInt) (h1 : b.toInt ≤ 6) : pw b.toInt ≤ 64 := by
  unfold pw
  repeat' split
  all_goals omega
theorem pw_none {l n : Int32} (h0 : 0 ≤ n.toInt) (h1 : n.toInt ≤ 6) (g0 : 0 ≤ l.toInt) (g1 : l.toInt < pw n.toInt) (hb : ∀ j : Int32, 0 ≤ j.toInt → j.toInt < n.toInt → ¬ bitOf l j) : l.toInt = 0 := by
  have hp := pw_le h0 h1
  have hn : ((n.toInt.toNat : Nat) : Int) = n.toInt := by omega
  have h := pw_bit_all n.toInt.toNat (by omega) l.toInt.toNat (by omega) (by rw [hn]; omega)
  rcases h with h | ⟨j, hj, hq⟩
  · omega
  · rw [nI_back g0] at hq
    have hjt : (nI j).toInt = (j : Int) := nI_toInt (by omega)
    exact absurd hq (hb (nI j) (by omega) (by omega))
