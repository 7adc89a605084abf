/-! LAYER 2: a formula's code over a stack, and both machines that run it -/
def sSt (kn : Nat → Int) (c : Int) (st : List Int) : List Int :=
  if c % 16 = 0 then clp (c / 16) :: st else if c % 16 = 1 then clp (kn (c / 16).toNat) :: st
  else if c % 16 = 2 then (match st with
    | a :: t => mb (a = 0) :: t
    | [] => [])
  else if c % 16 = 15 then (match st with
    | z :: y :: x :: t => (if x = 0 then z else y) :: t
    | _ => [])
  else (match st with
    | b :: a :: t => clp (sJ (c % 16) a b) :: t
    | _ => [])
def sRun (code kn : Nat → Int) : Nat → Nat → List Int → List Int
  | 0, _, st => st
  | n + 1, i, st => sRun code kn n (i + 1) (sSt kn (code i) st)
/-- what the signs of a code ask of the stack: how deep it is, which values are 0 or 1 -/
def okS (bs : List Bool) (c : Int) : Option (List Bool) :=
  if c < 0 ∨ 160000 < c ∨ 70 < bs.length then none
  else if c % 16 = 0 then some (decide (c / 16 ≤ 1) :: bs) else if c % 16 = 1 then (if c / 16 < 7 then some (false :: bs) else none)
  else if c % 16 = 2 then (match bs with
    | true :: t => some (true :: t)
    | _ => none)
  else if c % 16 = 15 then (match bs with
    | _ :: _ :: true :: t => some (false :: t)
    | _ => none)
  else if c % 16 = 13 ∨ c % 16 = 14 then (match bs with
    | true :: true :: t => some (true :: t)
    | _ => none)
  else (match bs with
    | _ :: _ :: t => some (decide (10 ≤ c % 16) :: t)
    | _ => none)
def okR (code : Nat → Int) : Nat → Nat → List Bool → Option (List Bool)
  | 0, _, bs => some bs
  | n + 1, i, bs => (okS bs (code i)).bind (okR code n (i + 1))
def tyS : List Int → List Bool → Prop
  | [], [] => True
  | a :: s, b :: t => sV a ∧ (b = true → a = 0 ∨ a = 1) ∧ tyS s t
  | _, _ => False
def hol (w : Nat → Int) : List Int → Prop
  | [] => True
  | a :: t => w t.length = a ∧ hol w t
theorem tyS_len : ∀ {st : List Int} {bs : List Bool}, tyS st bs → st.length = bs.length
  | [], [], _ => rfl
  | _ :: s, _ :: t, h => by simp [tyS_len (st := s) (bs := t) h.2.2]
  | [], _ :: _, h => h.elim
  | _ :: _, [], h => h.elim
theorem hol_up {w : Nat → Int} {k : Nat} {z : Int} : ∀ {st : List Int}, st.length ≤ k → hol w st → hol (mup1 w k z) st
  | [], _, _ => trivial
  | a :: t, hk, h => by
    have hk2 : t.length + 1 ≤ k := hk
    refine ⟨?_, hol_up (by omega) h.2⟩
    unfold mup1
    rw [if_neg (by omega)]
    exact h.1
theorem mup_row {σ : mMem} {o k : Nat} {z : Int} : mup σ o k z o = mup1 (σ o) k z := by
  funext j
  simp [mup, mupo]
theorem mup_off {σ : mMem} {o k q : Nat} {z : Int} (h : q ≠ o) : mup σ o k z q = σ q := by
  funext j
  exact mup_ne (fun e => h e.1)
theorem tyS_push {a : Int} {b : Bool} {st : List Int} {bs : List Bool} (h : tyS st bs) (ha : sV a) (hb : b = true → a = 0 ∨ a = 1) : tyS (a :: st) (b :: bs) := ⟨ha, hb, h⟩
/-- a step of the code is typed -/
theorem okS_ty {kn : Nat → Int} {c : Int} {st : List Int} {bs bs' : List Bool} (h : tyS st bs) (ho : okS bs c = some bs') : tyS (sSt kn c st) bs' := by
  unfold okS at ho
  split at ho
  · cases ho
  rename_i hc
  have hc1 : 0 ≤ c ∧ c ≤ 160000 ∧ bs.length ≤ 70 := by omega
  unfold sSt
  split at ho
  · rename_i e
    cases ho
    rw [if_pos e]
    have e2 : 0 ≤ c / 16 ∧ c / 16 ≤ 10000 := by omega
    rw [clp_id (by omega)]
    exact tyS_push h (by omega) (fun q => by have := of_decide_eq_true q; omega)
  rename_i e0
  split at ho
  · rename_i e
    split at ho
    · cases ho
      rw [if_neg e0, if_pos e]
      exact tyS_push h (clp_v _) (fun q => by cases q)
    · cases ho
  rename_i e1
  split at ho
  · rename_i e
    rw [if_neg e0, if_neg e1, if_pos e]
    match st, bs, h, ho with
    | a :: t, true :: u, h, ho =>
      cases ho
      have := mb_rng (a = 0)
      exact tyS_push h.2.2 (by omega) (fun _ => by omega)
    | a :: t, false :: u, h, ho => cases ho
    | [], [], h, ho => cases ho
  rename_i e2
  split at ho
  · rename_i e
    rw [if_neg e0, if_neg e1, if_neg e2, if_pos e]
    match st, bs, h, ho with
    | z :: y :: x :: t, _ :: _ :: true :: u, h, ho =>
      cases ho
      refine tyS_push h.2.2.2.2.2.2 ?_ (fun q => by cases q)
      have h1 := h.1
      have h2 := h.2.2.1
      split <;> assumption
    | z :: y :: x :: t, _ :: _ :: false :: u, h, ho => cases ho
    | [z, y], [_, _], h, ho => cases ho
    | [z], [_], h, ho => cases ho
    | [], [], h, ho => cases ho
  rename_i e15
  rw [if_neg e0, if_neg e1, if_neg e2, if_neg e15]
  split at ho
  · rename_i e
    match st, bs, h, ho with
    | b :: a :: t, true :: true :: u, h, ho =>
      cases ho
      refine tyS_push h.2.2.2.2 (clp_v _) (fun _ => ?_)
      have hj : sJ (c % 16) a b = 0 ∨ sJ (c % 16) a b = 1 := by
        have b1 := mb_rng (a ≠ 0 ∧ b ≠ 0)
        have b2 := mb_rng (a ≠ 0 ∨ b ≠ 0)
        rcases e with e | e <;> rw [e] <;> simp only [sJ, Int.reduceEq, ↓reduceIte] <;> omega
      rw [clp_id (by omega)]
      exact hj
    | b :: a :: t, true :: false :: u, h, ho => cases ho
    | b :: a :: t, false :: _ :: u, h, ho => cases ho
    | [b], [true], h, ho => cases ho
    | [b], [false], h, ho => cases ho
    | [], [], h, ho => cases ho
  · rename_i e
    match st, bs, h, ho with
    | b :: a :: t, _ :: _ :: u, h, ho =>
      cases ho
      refine tyS_push h.2.2.2.2 (clp_v _) (fun q => ?_)
      have q2 : 10 ≤ c % 16 := of_decide_eq_true q
      have hj : sJ (c % 16) a b = 0 ∨ sJ (c % 16) a b = 1 := by
        have b1 := mb_rng (a < b)
        have b2 := mb_rng (b < a)
        have b3 := mb_rng (a = b)
        rcases (by omega : c % 16 = 10 ∨ c % 16 = 11 ∨ c % 16 = 12) with e | e | e <;> rw [e] <;> simp only [sJ, Int.reduceEq, ↓reduceIte] <;> omega
      rw [clp_id (by omega)]
      exact hj
    | [b], [_], h, ho => cases ho
    | [], [], h, ho => cases ho
