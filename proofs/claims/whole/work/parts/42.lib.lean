/-! the pure part: library -/
def rxT (k j : Nat) : Option Nat := match k, j with
  | 1, 0 => some 2
  | 1, 3 => some 38
  | 1, 4 => some 39
  | 1, 6 => some 64
  | 1, 7 => some 66
  | 1, 8 => some 73
  | 1, 9 => some 92
  | 1, 10 => some 100
  | 1, 11 => some 104
  | 1, 12 => some 108
  | 2, 0 => some 3
  | 2, 1 => some 4
  | 2, 4 => some 5
  | 2, 5 => some 6
  | 2, 6 => some 7
  | 8, 2 => some 9
  | 8, 3 => some 10
  | 8, 4 => some 11
  | 8, 5 => some 12
  | 8, 6 => some 13
  | 8, 8 => some 14
  | 8, 9 => some 15
  | 8, 10 => some 16
  | 8, 12 => some 17
  | 8, 13 => some 18
  | 8, 14 => some 19
  | 8, 16 => some 20
  | 8, 17 => some 21
  | 8, 19 => some 22
  | 23, 2 => some 24
  | 23, 3 => some 25
  | 23, 4 => some 26
  | 23, 5 => some 27
  | 23, 6 => some 28
  | 23, 8 => some 29
  | 23, 9 => some 30
  | 23, 10 => some 31
  | 23, 12 => some 32
  | 23, 13 => some 33
  | 23, 14 => some 34
  | 23, 16 => some 35
  | 23, 17 => some 36
  | 23, 19 => some 37
  | 40, 3 => some 41
  | 40, 4 => some 42
  | 40, 5 => some 43
  | 40, 6 => some 44
  | 40, 7 => some 45
  | 46, 3 => some 47
  | 46, 4 => some 48
  | 46, 5 => some 49
  | 46, 6 => some 50
  | 46, 7 => some 51
  | 52, 3 => some 53
  | 52, 4 => some 54
  | 52, 5 => some 55
  | 52, 6 => some 56
  | 52, 7 => some 57
  | 58, 3 => some 59
  | 58, 4 => some 60
  | 58, 5 => some 61
  | 58, 6 => some 62
  | 58, 7 => some 63
  | 64, 0 => some 65
  | 66, 2 => some 67
  | 66, 3 => some 68
  | 66, 4 => some 69
  | 66, 5 => some 70
  | 66, 6 => some 71
  | 66, 7 => some 72
  | 73, 3 => some 74
  | 73, 4 => some 75
  | 73, 5 => some 76
  | 73, 6 => some 90
  | 73, 7 => some 91
  | 76, 0 => some 77
  | 76, 1 => some 78
  | 76, 2 => some 79
  | 76, 3 => some 80
  | 76, 4 => some 81
  | 76, 5 => some 82
  | 76, 6 => some 83
  | 76, 7 => some 84
  | 76, 8 => some 85
  | 76, 9 => some 86
  | 76, 10 => some 87
  | 76, 11 => some 88
  | 76, 12 => some 89
  | 92, 0 => some 93
  | 92, 1 => some 94
  | 92, 2 => some 95
  | 95, 0 => some 96
  | 95, 1 => some 97
  | 95, 2 => some 98
  | 95, 3 => some 99
  | 100, 1 => some 101
  | 100, 2 => some 102
  | 100, 3 => some 103
  | 104, 2 => some 105
  | 104, 3 => some 106
  | 104, 4 => some 107
  | 108, 4 => some 109
  | 108, 5 => some 110
  | 108, 6 => some 111
  | 111, 0 => some 112
  | 111, 1 => some 113
  | _, _ => none
def rmT (j : Nat) : Option Nat := match j with
  | 0 => some 2
  | 1 => some 3
  | 11 => some 4
  | 12 => some 5
  | 13 => some 6
  | 14 => some 7
  | 15 => some 8
  | 16 => some 9
  | 17 => some 10
  | 18 => some 11
  | 19 => some 12
  | 20 => some 13
  | 21 => some 14
  | 22 => some 15
  | 23 => some 16
  | 24 => some 17
  | 25 => some 18
  | 26 => some 19
  | 27 => some 20
  | 28 => some 21
  | 29 => some 22
  | 30 => some 23
  | 36 => some 24
  | 37 => some 25
  | 38 => some 26
  | 39 => some 27
  | 40 => some 28
  | 41 => some 29
  | 42 => some 30
  | 43 => some 31
  | 44 => some 32
  | 61 => some 33
  | 62 => some 34
  | 63 => some 35
  | 64 => some 36
  | 65 => some 37
  | 66 => some 38
  | 69 => some 39
  | 70 => some 40
  | 71 => some 41
  | 72 => some 42
  | 77 => some 43
  | 78 => some 44
  | 79 => some 45
  | 80 => some 46
  | 82 => some 47
  | 83 => some 48
  | 88 => some 49
  | 89 => some 50
  | 90 => some 51
  | _ => none
/-- where the program answers, and what then holds -/
def Ok {α : Type} (o : Option α) (Q : α → Prop) : Prop := ∃ v, o = some v ∧ Q v
theorem ok_some {α : Type} {v : α} {Q : α → Prop} (h : Q v) : Ok (some v) Q := ⟨v, rfl, h⟩
theorem ok_eq {α : Type} {o : Option α} {v : α} {Q : α → Prop} (e : o = some v) (h : Q v) : Ok o Q := ⟨v, e, h⟩
theorem ok_bind {α β : Type} {a : Option α} {f : α → Option β} {Q : β → Prop} (h : Ok a (fun v => Ok (f v) Q)) : Ok (Option.bind a f) Q := by
  obtain ⟨v, rfl, w, e, h⟩ := h
  exact ⟨w, e, h⟩
theorem ok_call {α β : Type} {a : Option α} {f : α → Option β} {P : α → Prop} {Q : β → Prop} (h : Ok a P) (k : ∀ v, P v → Ok (f v) Q) : Ok (Option.bind a f) Q := by
  obtain ⟨v, rfl, h⟩ := h
  exact k v h
theorem ok_rw {α β : Type} {a : Option α} {v : α} {f : α → Option β} {Q : β → Prop} (e : a = some v) (k : Ok (f v) Q) : Ok (Option.bind a f) Q := by
  subst e
  exact k
theorem ok_mono {α : Type} {o : Option α} {P Q : α → Prop} (h : Ok o P) (k : ∀ v, P v → Q v) : Ok o Q := by
  obtain ⟨v, e, h⟩ := h
  exact ⟨v, e, k v h⟩
theorem ok_ite {α : Type} {c : Prop} [Decidable c] {a b : Option α} {Q : α → Prop} (h1 : c → Ok a Q) (h2 : ¬ c → Ok b Q) : Ok (if c then a else b) Q := by
  by_cases h : c
  · rw [if_pos h]; exact h1 h
  · rw [if_neg h]; exact h2 h
theorem ok_pos {α : Type} {c : Prop} [Decidable c] {a b : Option α} {Q : α → Prop} (h : c) (h1 : Ok a Q) : Ok (if c then a else b) Q := by rw [if_pos h]; exact h1
theorem ok_neg {α : Type} {c : Prop} [Decidable c] {a b : Option α} {Q : α → Prop} (h : ¬ c) (h1 : Ok b Q) : Ok (if c then a else b) Q := by rw [if_neg h]; exact h1
theorem ok_fix {T α : Type} {N : Nat} {F : (T → Option α) → T → Option α} {Q : α → Prop} (I : T → Prop) (μ : T → Nat) (h : ∀ (back : T → Option α) (t : T), I t → (∀ t', I t' → μ t' < μ t → Ok (back t') Q) → Ok (F back t) Q) (t : T) (hi : I t) (hN : μ t < N) : Ok (fixN N F t) Q := by
  induction N generalizing t with
  | zero => omega
  | succ n ih => exact h _ t hi fun t' h1 h2 => ih t' h1 (by omega)
/-- a world: its cells, its references -/
def WX (σ : St) : Prop := σ.1 = 113 ∧ ∀ (k j v : Nat), rxT k j = some v → σ.2.2 k j = v
def WM (σ : St) : Prop := σ.1 = 51 ∧ ∀ (j v : Nat), rmT j = some v → σ.2.2 1 j = v
theorem WX.uI {σ : St} {k : Nat} {j v : Int} (h : WX σ) : WX (uI σ k j v) := h
theorem WM.uI {σ : St} {k : Nat} {j v : Int} (h : WM σ) : WM (uI σ k j v) := h
theorem uI_eq {σ : St} {k : Nat} {j v : Int} : (uI σ k j v).2.1 k j = v := if_pos ⟨rfl, rfl⟩
theorem uI_k {σ : St} {k k' : Nat} {j j' v : Int} (h : k' ≠ k) : (uI σ k j v).2.1 k' j' = σ.2.1 k' j' := if_neg fun q => h q.1
theorem uI_j {σ : St} {k k' : Nat} {j j' v : Int} (h : j' ≠ j) : (uI σ k j v).2.1 k' j' = σ.2.1 k' j' := if_neg fun q => h q.2
theorem uI_at {σ : St} {k : Nat} {j j' v : Int} : (uI σ k j v).2.1 k j' = if j' = j then v else σ.2.1 k j' := by
  by_cases h : j' = j
  · rw [if_pos h, h]; exact uI_eq
  · rw [if_neg h]; exact uI_j h
section Steps
variable {α : Type} {S : List Sp} {σ : St} {Q : α → Prop}
theorem st_gI {ci k j : Nat} {f : Int → Option α} (hs : shp S k = (0, ci)) (hk : k ≤ σ.1) (h : Ok (f (σ.2.1 k j)) Q) : Ok (Option.bind (gI S σ ci k j) f) Q := by
  unfold gI; rw [if_pos ⟨hs, hk⟩]; exact h
theorem st_pI {ci k j : Nat} {v : Int} {f : St → Option α} (hs : shp S k = (0, ci)) (hk : k ≤ σ.1) (h : Ok (f (uI σ k j v)) Q) : Ok (Option.bind (pI S σ ci k j v) f) Q := by
  unfold pI; rw [if_pos ⟨hs, hk⟩]; exact h
theorem st_gR {ci k j v : Nat} {f : Nat → Option α} (hs : shp S k = (0, ci)) (hk : k ≤ σ.1) (e : σ.2.2 k j = v) (h : Ok (f v) Q) : Ok (Option.bind (gR S σ ci k j) f) Q := by
  unfold gR; rw [if_pos ⟨hs, hk⟩, e]; exact h
theorem st_aI {t k n : Nat} {i : Int} {f : Int → Option α} (hs : shp S k = (t, n)) (hk : k ≤ σ.1) (h0 : 0 ≤ wr i) (h1 : wr i < (n : Int)) (h : Ok (f (σ.2.1 k (wr i))) Q) : Ok (Option.bind (aI S σ t k i) f) Q := by
  unfold aI; rw [if_pos ⟨by rw [hs], hk, h0, by rw [hs]; exact h1⟩]; exact h
theorem st_aR {t k n v : Nat} {i : Int} {f : Nat → Option α} (hs : shp S k = (t, n)) (hk : k ≤ σ.1) (h0 : 0 ≤ wr i) (h1 : wr i < (n : Int)) (e : σ.2.2 k (wr i) = v) (h : Ok (f v) Q) : Ok (Option.bind (aR S σ t k i) f) Q := by
  unfold aR; rw [if_pos ⟨by rw [hs], hk, h0, by rw [hs]; exact h1⟩, e]; exact h
theorem st_sI {t k n : Nat} {i v : Int} {f : St → Option α} (hs : shp S k = (t, n)) (hk : k ≤ σ.1) (h0 : 0 ≤ wr i) (h1 : wr i < (n : Int)) (h : Ok (f (uI σ k (wr i) v)) Q) : Ok (Option.bind (sI S σ t k i v) f) Q := by
  unfold sI; rw [if_pos ⟨by rw [hs], hk, h0, by rw [hs]; exact h1⟩]; exact h
theorem st_rcv {ci k : Nat} {P : Option (St × Int)} {f : St × Int → Option α} (hs : shp S k = (0, ci)) (hk : k ≤ σ.1) (h : Ok (Option.bind P f) Q) : Ok (Option.bind (rcv S σ ci k P) f) Q := by
  unfold rcv; rw [if_pos ⟨hs, hk⟩]; exact h
theorem st_Lt {β : Type} {a : β} {f : β → Option α} (h : Ok (f a) Q) : Ok (Lt a f) Q := h
theorem st_Jn {β : Type} {r : β → Option α} {f : (β → Option α) → Option α} (h : Ok (f r) Q) : Ok (Jn r f) Q := h
theorem st_dv {a b : Int} {f : Int → Option α} (h0 : wr b ≠ 0) (h : Ok (f (Int.tdiv (wr a) (wr b))) Q) : Ok (Option.bind (dvO a b) f) Q := by
  unfold dvO; rw [if_neg h0]; exact h
end Steps
theorem ok_swap {α β : Type} {a : Option α} {b : Option β} {Q : α → β → Prop} (h : Ok b (fun w => Ok a (fun v => Q v w))) : Ok a (fun v => Ok b (Q v)) := by
  obtain ⟨w, e, v, e2, h⟩ := h
  exact ⟨v, e2, w, e, h⟩
/-- two loops, step by step -/
theorem ok_fix2 {T U α β : Type} {N : Nat} {F : (T → Option α) → T → Option α} {G : (U → Option β) → U → Option β} {Q : α → β → Prop} (I : T → U → Prop) (μ : T → Nat)
    (h : ∀ (b1 : T → Option α) (b2 : U → Option β) (t : T) (u : U), I t u → (∀ t' u', I t' u' → μ t' < μ t → Ok (b1 t') (fun v => Ok (b2 u') (Q v))) → Ok (F b1 t) (fun v => Ok (G b2 u) (Q v))) (t : T) (u : U) (hi : I t u) (hN : μ t < N) : Ok (fixN N F t) (fun v => Ok (fixN N G u) (Q v)) := by
  induction N generalizing t u with
  | zero => omega
  | succ n ih => exact h _ _ t u hi fun t' u' h1 h2 => ih t' u' h1 (by omega)
theorem ok2_of {Inv : St → St → Prop} {px pm : Option (St × Int)} (h : Ok px (fun v => Ok pm (fun w => wr v.2 = wr w.2 ∧ Inv v.1 w.1))) : OK2 Inv px pm := by
  obtain ⟨v, e, w, e2, h1, h2⟩ := h
  exact ⟨v.1, w.1, v.2, w.2, e, e2, h1, h2⟩
theorem uI_rd {σ : St} {k k' : Nat} {j j' v : Int} : (uI σ k j v).2.1 k' j' = if k' = k ∧ j' = j then v else σ.2.1 k' j' := rfl
theorem WX.le {σ : St} {k : Nat} (h : WX σ) (hk : k ≤ 113) : k ≤ σ.1 := by rw [h.1]; exact hk
theorem WM.le {σ : St} {k : Nat} (h : WM σ) (hk : k ≤ 51) : k ≤ σ.1 := by rw [h.1]; exact hk
theorem WX.rf {σ : St} {k j v : Nat} (h : WX σ) (e : rxT k j = some v) : σ.2.2 k j = v := h.2 k j v e
theorem WM.rf {σ : St} {j v : Nat} (h : WM σ) (e : rmT j = some v) : σ.2.2 1 j = v := h.2 j v e
/-- within: one number of two -/
theorem within_eq (N : Nat) (σ : St) (v lo hi : Int) : f_X11_within N σ v lo hi = some (σ, if wr lo ≤ wr v ∧ wr v ≤ wr hi then 1 else 0) := by
  unfold f_X11_within
  by_cases h1 : wr v < wr lo
  · rw [if_pos h1, if_neg (by omega)]
  · rw [if_neg h1]
    by_cases h2 : wr hi < wr v
    · rw [if_pos h2, if_neg (by omega)]
    · rw [if_neg h2, if_pos (by omega)]
