theorem CL.to {κ : tK} {w : va_W} {a0 : Nat} {t m n m' n' : Int} (h : CL κ w a0 t m n) (h1 : m = m') (h2 : n = n') : CL κ w a0 t m' n' := by subst h1; subst h2; exact h
theorem CL.ps {κ : tK} {w : va_W} {a0 : Nat} {t m n : Int} (h : CL κ w a0 t m n) (ht : t ≤ 5) : ∃ b9 h9 : Int, PS κ w a0 t.toNat 0 (-1) b9 h9 (6 * m) n := by
  rcases h with ⟨h1, -⟩ | ⟨-, -, h1⟩
  · omega
  · exact h1
theorem sg_at {A : Nat → Prop} {w : va_W} {a0 sA a j : Nat} {g : Nat → Int32} {x : Int32} (hD : va_D A w) (h0 : fld w a0 12 3 (.ref sA)) (ha : arr w sA g) (hf : fld w a0 12 3 (.ref a)) (he : elt w a j x) : x = g j := by
  have es := ref_eq hD h0 hf
  subst es
  exact arr_elt hD ha he
theorem OS.to {κ : tK} {w : va_W} {a0 : Nat} {o : Nat → Int32} {op dp op' dp' : Int} (h : OS κ w a0 o op dp) (h1 : op = op') (h2 : dp = dp') : OS κ w a0 o op' dp' := by subst h1; subst h2; exact h
theorem OS.nn {κ : tK} {w : va_W} {a0 : Nat} {o : Nat → Int32} {op dp : Int} (h : OS κ w a0 o op dp) : 0 ≤ dp ∧ dp ≤ op := by
  have h1 := cD_le o op.toNat
  have h2 := h.1
  have h3 := h.2.2.2
  omega
theorem OS.zer {κ : tK} {w : va_W} {a0 : Nat} {o : Nat → Int32} {op dp : Int} (h : OS κ w a0 o op dp) (h0 : op = 0) : dp = 0 := by have := h.nn; omega
theorem or0 {l r : Int32} (e : r = l ||| 0) : r = l := by rw [e]; simp
def BW (l wst b : Int32) (n : Int) : Prop := (wst.toInt = -1 ∧ ∀ j : Int32, 0 ≤ j.toInt → j.toInt < b.toInt → ¬ bitOf l j) ∨ (0 ≤ wst.toInt ∧ wst.toInt < n ∧ bitOf l wst)
theorem BW.skip {l w b b' : Int32} {n : Int} (h : BW l w b n) (hb : b'.toInt = b.toInt + 1) (hn : ¬ bitOf l b) : BW l w b' n := by
  rcases h with ⟨h1, h2⟩ | h1
  · refine Or.inl ⟨h1, fun j h3 h4 => ?_⟩
    by_cases hj : j.toInt = b.toInt
    · rw [Int32.toInt_inj.mp hj]
      exact hn
    · exact h2 j h3 (by omega)
  · exact Or.inr h1
theorem BW.keep {l w b b' : Int32} {n : Int} (h : BW l w b n) (h0 : 0 ≤ w.toInt) : BW l w b' n := by
  rcases h with ⟨h1, h2⟩ | h1
  · omega
  · exact Or.inr h1
theorem BW.new {l b b' : Int32} {n : Int} (hb : bitOf l b) (h0 : 0 ≤ b.toInt) (h1 : b.toInt < n) : BW l b b' n := Or.inr ⟨h0, h1, hb⟩
theorem BW.init {l : Int32} {n : Int} : BW l (-1) 0 n := by
  refine Or.inl ⟨by decide, fun j h1 h2 => ?_⟩
  rw [show (0 : Int32).toInt = 0 by decide] at h2
  omega
theorem BW.get {l w b n : Int32} (h : BW l w b n.toInt) (hb : n.toInt ≤ b.toInt) (h0 : 0 ≤ n.toInt) (h1 : n.toInt ≤ 6) (hL : 0 ≤ l.toInt ∧ l.toInt < pw n.toInt) (hne : ¬ l.toInt = 0) : 0 ≤ w.toInt ∧ w.toInt < n.toInt ∧ bitOf l w := by
  rcases h with ⟨h2, h3⟩ | h2
  · exact absurd (pw_none h0 h1 hL.1 hL.2 (fun j q1 q2 => h3 j q1 (by omega))) hne
  · exact h2
