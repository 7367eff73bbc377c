/-! the invariant: what the class holds and what the reference holds, side by side -/
/-- two stores agree on the slots that u names -/
def Ag (u : Nat → Nat → Bool) (S S' : Sto) : Prop := ∀ a k, u a k = true → S' a k = S a k
theorem Ag.rf {u : Nat → Nat → Bool} {S : Sto} : Ag u S S := fun _ _ _ => rfl
theorem Ag.tr {u : Nat → Nat → Bool} {S S1 S2 : Sto} (h : Ag u S S1) (g : Ag u S1 S2) : Ag u S S2 := fun a k hu => (g a k hu).trans (h a k hu)
theorem Ag.sw {u : Nat → Nat → Bool} {S S1 : Sto} {a k : Nat} {x : Int32} (h : Ag u S S1) (hu : u a k = false) : Ag u S (sw S1 a k x) := by
  intro b j hb
  by_cases e : b = a
  · subst e
    rw [sw_a]
    by_cases e2 : j = k
    · subst e2; rw [hu] at hb; cases hb
    · rw [pk_un e2]; exact h b j hb
  · rw [sw_n e]; exact h b j hb
theorem Ag.sr {u : Nat → Nat → Bool} {S S1 : Sto} {a : Nat} {f : Nat → Int32} (h : Ag u S S1) (hu : ∀ k, u a k = false) : Ag u S (sr S1 a f) := by
  intro b j hb
  by_cases e : b = a
  · subst e; rw [hu] at hb; cases hb
  · rw [sr_n e]; exact h b j hb
theorem Ag.le {u v : Nat → Nat → Bool} {S S1 : Sto} (h : Ag u S S1) (hv : ∀ a k, v a k = true → u a k = true) : Ag v S S1 := fun a k q => h a k (hv a k q)
theorem sw_same {S : Sto} {a k : Nat} {x : Int32} : sw S a k x a k = x := by rw [sw_a, pk_us]
theorem sw_k {S : Sto} {a k j : Nat} {x : Int32} (h : j ≠ k) : sw S a k x a j = S a j := by rw [sw_a, pk_un h]
/-- an int between two numbers -/
def btw (x : Int32) (lo hi : Int) : Prop := lo ≤ x.toInt ∧ x.toInt ≤ hi
/-! groups -/
def gAir (S : Sto) : Prop := S 104 1 = S 1 0 ∧ S 104 2 = S 1 1 ∧ S 104 3 = S 1 2 ∧ S 104 4 = S 0 11 ∧ btw (S 1 0) 1 9 ∧ btw (S 1 1) (-9) 9 ∧ btw (S 1 2) (-9) 9 ∧ btw (S 0 11) 0 99
def gWal (S : Sto) : Prop := ∃ n : Nat, n ≤ 10 ∧ S 1 4 = nI n ∧ S 104 5 = nI n ∧ ∀ i, i < n → S 105 i = S (3 + i) 0 ∧ S 106 i = S (3 + i) 1 ∧ S 107 i = S (3 + i) 2 ∧ S 108 i = S (3 + i) 3 ∧ S 109 i = S (3 + i) 4 ∧ btw (S (3 + i) 0) 0 1 ∧ btw (S (3 + i) 1) 0 59 ∧ btw (S (3 + i) 2) 0 59 ∧ btw (S (3 + i) 3) 0 59 ∧ btw (S (3 + i) 4) 0 100
def gSpo (S : Sto) : Prop := ∀ i, i < 10 → S 110 i = S 17 i ∧ (S 17 i = -1 ∨ isC (S 17 i))
def gSho (S : Sto) : Prop := ∃ n : Nat, n ≤ 10 ∧ S 0 4 = nI n ∧ S 104 12 = nI n ∧ (∀ i, i < n → S 111 i = S (19 + i) 0 ∧ S 112 i = S (19 + i) 1 ∧ S 113 i = S (19 + i) 2 ∧ S 114 i = S (19 + i) 3 ∧ isC (S (19 + i) 0) ∧ btw (S (19 + i) 1) 0 99999 ∧ (S (19 + i) 2 = -1 ∨ (isC (S (19 + i) 2) ∧ S (19 + i) 2 ≠ S (19 + i) 0 ∧ btw (S (19 + i) 3) 1 99))) ∧ ∀ j, j < 6 → S 131 j = S 51 j ∧ btw (S 51 j) 0 (2 ^ n - 1)
def gByt (S : Sto) : Prop := ∃ n : Nat, n ≤ 400 ∧ S 29 1 = nI n ∧ S 104 27 = nI n ∧ ∀ i, i < n → S 118 i = S 30 i &&& 255
def gFau (S : Sto) : Prop := S 104 46 = S 29 2 ∧ S 104 47 = S 29 3
def gHea (S : Sto) : Prop := ∃ n : Nat, n ≤ 20 ∧ S 33 4 = nI n ∧ S 104 50 = nI n ∧ ∀ i, i < n → S 129 i = S 47 i ∧ S 130 i = S 48 i ∧ isC (S 47 i) ∧ btw (S 48 i) (-1) 7
def gEar (S : Sto) : Prop := ∃ n : Nat, n ≤ 8 ∧ S 53 3 = nI n ∧ S 104 54 = nI n ∧ (∀ i, i < n → S 132 i = S 52 i ∧ isC (S 52 i) ∧ S 133 i = S 55 i ∧ (S 55 i = -1 ∨ (S 134 i = S 56 i ∧ 0 ≤ (S 55 i).toInt ∧ (S 55 i).toInt ≤ (S 56 i).toInt ∧ (S 56 i).toInt ≤ 199999))) ∧ ∀ i, n ≤ i → i < 8 → S 133 i = -1
def gCli (S : Sto) : Prop := ∀ t, t < 4 → ∃ n : Nat, n ≤ 20 ∧ S (58 + 8 * t) 3 = nI n ∧ S 135 t = nI n ∧ (∀ i, i < n → S 136 (20 * t + i) = S (58 + 8 * t + 1) i ∧ btw (S (58 + 8 * t + 1) i) 0 199999) ∧ ∀ i j, i < j → j < n → (S (58 + 8 * t + 1) i).toInt < (S (58 + 8 * t + 1) j).toInt
def gVoi (S : Sto) : Prop := ∀ t, t < 4 → ∃ n : Nat, n ≤ 10 ∧ S (58 + 8 * t + 2) 3 = nI n ∧ S 137 t = nI n ∧ ∀ i, i < n → S 138 (10 * t + i) = S (58 + 8 * t + 2 + 2) i - S (58 + 8 * t + 2 + 1) i ∧ S 139 (10 * t + i) = S (58 + 8 * t + 2 + 3) i - S (58 + 8 * t + 2 + 1) i ∧ btw (S (58 + 8 * t + 2 + 1) i) 0 199999 ∧ 0 ≤ (S (58 + 8 * t + 2 + 2) i).toInt ∧ (S (58 + 8 * t + 2 + 2) i).toInt ≤ (S (58 + 8 * t + 2 + 3) i).toInt ∧ (S (58 + 8 * t + 2 + 3) i).toInt ≤ 9999999
def gNoi (S : Sto) : Prop := ∃ n : Nat, n ≤ 20 ∧ S 90 5 = nI n ∧ S 104 65 = nI n ∧ ∀ i, i < n → S 140 i = S 94 i ∧ S 141 i = S 95 i ∧ S 142 i = S 96 i ∧ S 143 i = S 97 i ∧ btw (S 94 i) 0 9999 ∧ btw (S 95 i) 0 999 ∧ btw (S 96 i) 0 199999 ∧ btw (S 97 i) 1 3
def gBal (S : Sto) : Prop := S 104 70 = S 0 14 ∧ (S 0 14 = -1 ∨ (isC (S 0 14) ∧ S 104 71 = S 0 15 ∧ btw (S 0 15) 1 99))
def wordsL : List Int32 := [32, 116, 117, 114, 110, 32, 98, 97, 110, 103, 32, 99, 114, 97, 99, 107, 32, 119, 97, 108, 108, 32, 110, 111, 32, 119, 104, 101, 110, 32, 111, 114, 32, 97, 110, 100, 32, 110, 111, 116, 32, 103, 97, 112, 32, 119, 97, 108, 108, 115, 32, 110, 101, 97, 114, 32, 115, 104, 111, 116, 32, 116, 114, 117, 99, 107, 32, 98, 111, 97, 114, 100, 32, 108, 111, 117, 100, 32, 108, 111, 110, 103, 32, 97, 104, 101, 97, 100, 32, 98, 101, 104, 105, 110, 100, 32]
def gWor (S : Sto) : Prop := ∀ i, i < 96 → S 119 i = wordsL.getD i 0
/-! texts that were read: lines of (what a line tells, its code); a code's sign and its number -/
abbrev Cod : Type := List (Nat × Nat)
/-- a code as the class keeps it -/
def cw1 (q : Nat × Nat) : Int32 := nI (q.1 * 131072 + q.2)
/-- as the reference keeps it: rule texts ask from 6 on -/
def refC (off : Nat) (q : Nat × Nat) : Cod :=
  if q.1 = 12 then [(0, q.2)] else if q.1 = 13 then [(1, q.2 + off)] else if q.1 = 47 then [(0, q.2), (5, 0)] else if q.1 = 43 then [(2, 0)] else if q.1 = 45 then [(3, 0)] else if q.1 = 42 then [(4, 0)] else if q.1 = 60 then [(6, 0)] else if q.1 = 61 then [(7, 0)] else if q.1 = 62 then [(8, 0)] else if q.1 = 3 then [(9, 0)] else if q.1 = 2 then [(10, 0)] else if q.1 = 59 then [] else [(11, 0)]
def refL (off : Nat) (c : Cod) : Cod := c.flatMap (refC off)
/-- kinds on the stack: true a claim, false a number; at most 32 -/
def tyC (st : List Bool) (q : Nat × Nat) : Option (List Bool) :=
  if q.1 = 12 then (if st.length < 32 ∧ q.2 < 131072 then some (false :: st) else none)
  else if q.1 = 13 then (if st.length < 32 ∧ q.2 < 6 then some (false :: st) else none)
  else if q.1 = 47 then (match st with | false :: r => if 0 < q.2 ∧ q.2 < 131072 then some (false :: r) else none | _ => none)
  else if q.1 = 43 ∨ q.1 = 45 ∨ q.1 = 42 then (match st with | false :: false :: r => if q.2 = 0 then some (false :: r) else none | _ => none)
  else if q.1 = 60 ∨ q.1 = 61 ∨ q.1 = 62 then (match st with | false :: false :: r => if q.2 = 0 then some (true :: r) else none | _ => none)
  else if q.1 = 3 then (match st with | true :: r => if q.2 = 0 then some (true :: r) else none | _ => none)
  else if q.1 = 2 ∨ q.1 = 1 then (match st with | true :: true :: r => if q.2 = 0 then some (true :: r) else none | _ => none)
  else none
def tyL : Cod → List Bool → Option (List Bool)
  | [], st => some st
  | q :: c, st => (tyC st q).bind (tyL c)
/-- what a line tells, as the reference keeps it -/
def srt (k r : Nat) : Nat := if k = 4 then r + 11 else if r = 0 then 4 else r
def scA (k : Nat) : Nat := if k = 4 then 91 else 35 + 3 * k
def lnsC (ls : List (Nat × Cod)) : Cod := ls.flatMap (fun l => l.2 ++ [(59, l.1)])
/-- where a line's code begins in the reference's row -/
def begL (off : Nat) (ls : List (Nat × Cod)) (j : Nat) : Nat := ((ls.take j).map (fun l => (refL off l.2).length)).sum
def Scr (nL k : Nat) (S : Sto) (ls : List (Nat × Cod)) : Prop :=
  let c := (S (scA k) 0).toNatClampNeg
  let off := if k = 4 then 6 else 0
  (146 ≤ c ∨ c = scA k + 1) ∧ c < nL ∧ S c 400 = nI (lnsC ls).length ∧ (lnsC ls).length < 400 ∧ (∀ i q, (lnsC ls)[i]? = some q → S c i = cw1 q) ∧
  ls.length ≤ 12 ∧ S 120 k = nI ls.length ∧ begL off ls ls.length ≤ 400 ∧
  (∀ (j : Nat) (l : Nat × Cod), ls[j]? = some l → S 121 (12 * k + j) = nI (srt k l.1) ∧ S 122 (12 * k + j) = nI (begL off ls j) ∧ S 123 (12 * k + j) = nI (begL off ls (j + 1)) ∧ l.1 ≤ 3 ∧ (k = 4 → 1 ≤ l.1) ∧ tyL l.2 [] = some [true] ∧ (k = 4 → ∀ q ∈ l.2, q.1 = 13 → q.2 < 4) ∧
    ∀ (i : Nat) (q : Nat × Nat), (refL off l.2)[i]? = some q → S 124 (400 * k + begL off ls j + i) = nI q.1 ∧ S 125 (400 * k + begL off ls j + i) = nI q.2)
def gLaw (nL : Nat) (S : Sto) : Prop := ∀ k, k < 5 → ∃ ls, Scr nL k S ls
def Iv (nL : Nat) (S : Sto) : Prop := gAir S ∧ gWal S ∧ gSpo S ∧ gSho S ∧ gByt S ∧ gFau S ∧ gHea S ∧ gEar S ∧ gCli S ∧ gVoi S ∧ gNoi S ∧ gBal S ∧ gWor S ∧ gLaw nL S
