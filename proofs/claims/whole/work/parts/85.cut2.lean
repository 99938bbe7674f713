/-- where the search for token t begins -/
def atS (z : Nat) (tx : Nat → Int) : Nat → Nat
  | 0 => 0
  | t + 1 => if rnS qS tx (z - atS z tx t) (atS z tx t) < z then (tkS z tx (rnS qS tx (z - atS z tx t) (atS z tx t))).1 else z
def stS (z : Nat) (tx : Nat → Int) (t : Nat) : Nat := rnS qS tx (z - atS z tx t) (atS z tx t)
def kdS (z : Nat) (tx : Nat → Int) (t : Nat) : Int := if stS z tx t < z then (tkS z tx (stS z tx t)).2.1 else 0
def vlS (z : Nat) (tx : Nat → Int) (t : Nat) : Int := if stS z tx t < z then (tkS z tx (stS z tx t)).2.2 else 0
theorem atS_s (z : Nat) (tx : Nat → Int) (t : Nat) : atS z tx (t + 1) = if stS z tx t < z then (tkS z tx (stS z tx t)).1 else z := rfl
theorem atS_b (z : Nat) (tx : Nat → Int) : ∀ t, atS z tx t ≤ z ∧ stS z tx t ≤ z := by
  intro t
  have key : atS z tx t ≤ z := by
    cases t with
    | zero => exact Nat.zero_le z
    | succ t =>
      rw [atS_s]
      by_cases e : stS z tx t < z
      · rw [if_pos e]; exact (tkS_b e).2.1
      · rw [if_neg e]; exact Nat.le_refl z
  have := rnS_b qS tx (z - atS z tx t) (atS z tx t)
  exact ⟨key, by unfold stS; omega⟩
theorem stS_end {z : Nat} {tx : Nat → Int} {t : Nat} (h : stS z tx t = z) : ∀ u, t ≤ u → stS z tx u = z := by
  intro u
  induction u with
  | zero => intro hu; rw [show (0 : Nat) = t by omega]; exact h
  | succ u ih =>
    intro hu
    by_cases e : t = u + 1
    · rw [← e]; exact h
    · have i := ih (by omega)
      have a : atS z tx (u + 1) = z := by rw [atS_s, if_neg (by omega)]
      unfold stS
      rw [a, Nat.sub_self]
      rfl
theorem p_cut {n : Nat} (hn : 1000 ≤ n) {z : Nat} {tx : Nat → Int} (h : okT z tx) (st va ki : Nat → Int) : ∃ (pl : Int) (N : Nat) (st' va' ki' : Nat → Int), F_X9_cut n z tx st va ki = some (pl, (N : Int), st', va', ki') ∧ N ≤ 120 ∧ (∀ t, t < N → stS z tx t < z ∧ st' t = (stS z tx t : Nat) ∧ ki' t = kdS z tx t ∧ va' t = vlS z tx t) ∧ stS z tx N = z := by
  have hz := h.1
  obtain ⟨r, h1, h2⟩ := lp_rule (f := fun (q : Int × Int × Int × (Nat → Int) × (Nat → Int) × (Nat → Int)) => F_X9_cut_L12 n z tx q.1 q.2.1 q.2.2.1 q.2.2.2.1 q.2.2.2.2.1 q.2.2.2.2.2) (fun k q => ∃ (p N : Nat) (st' va' ki' : Nat → Int), q = ((k : Int), (p : Int), (N : Int), st', va', ki') ∧ p ≤ z ∧ k ≤ p ∧ N ≤ p ∧ rnS qS tx (z - p) p = stS z tx N ∧ ∀ t, t < N → stS z tx t < z ∧ st' t = (stS z tx t : Nat) ∧ ki' t = kdS z tx t ∧ va' t = vlS z tx t)
    (fun r => ∃ (pl : Int) (N : Nat) (st' va' ki' : Nat → Int), r = (pl, (N : Int), st', va', ki') ∧ N ≤ 120 ∧ (∀ t, t < N → stS z tx t < z ∧ st' t = (stS z tx t : Nat) ∧ ki' t = kdS z tx t ∧ va' t = vlS z tx t) ∧ stS z tx N = z) (N := 120) (n := n) (s := (0, 0, 0, st, va, ki)) (by omega) ⟨0, 0, st, va, ki, rfl, by omega, by omega, by omega, rfl, fun t ht => by omega⟩ (fun k q hI hk => by
    obtain ⟨p, N, st', va', ki', rfl, c0, c1, c2, c3, c4⟩ := hI
    dsimp only
    by_cases hp : p < z
    · left
      have a := p_letterAt (n := n) hz tx (i := p) (by omega)
      have la : la_ z tx p = tx p := if_pos hp
      rw [la] at a
      have b := h.2 p hp
      obtain ⟨d, hd⟩ : ∃ d, z - p = d + 1 := ⟨z - p - 1, by omega⟩
      have rn : rnS qS tx (z - p) p = if qS (tx p) then rnS qS tx d (p + 1) else p := by rw [hd]; rfl
      by_cases e : tx p = 32
      · rw [show qS (tx p) = true from decide_eq_true e, if_pos rfl] at rn
        refine ⟨((k : Int) + 1, (p : Int) + 1, (N : Int), st', va', ki'), ?_, ⟨p + 1, N, st', va', ki', rfl, by omega, by omega, by omega, by rw [show z - (p + 1) = d by omega, ← rn]; exact c3, c4⟩, by omega⟩
        exact (ck_pos (by omega)).trans ((if_pos (by omega)).trans ((ck_pos (by omega)).trans ((if_pos (by omega)).trans ((bd_of a).trans ((bd_of (a := ((p : Int) + 1, (N : Int), st', va', ki')) ((ck_pos (by omega)).trans (if_pos e))).trans rfl)))))
      · rw [show qS (tx p) = false from decide_eq_false e, if_neg (by decide)] at rn
        have sN : stS z tx N = p := by rw [← c3, rn]
        obtain ⟨va2, t1, t2, t3⟩ := p_cutToken hn h hp (t := N) (by omega) st' va' ki'
        have tb := tkS_b (tx := tx) hp
        have aN : atS z tx (N + 1) = (tkS z tx p).1 := by rw [atS_s, sN, if_pos hp]
        refine ⟨((k : Int) + 1, ((tkS z tx p).1 : Int), (N : Int) + 1, up_ st' N p, va2, up_ ki' N (tkS z tx p).2.1), ?_, ⟨(tkS z tx p).1, N + 1, _, va2, _, rfl, by omega, by omega, by omega, ?_, fun t ht => ?_⟩, by omega⟩
        · exact (ck_pos (by omega)).trans ((if_pos (by omega)).trans ((ck_pos (by omega)).trans ((if_pos (by omega)).trans ((bd_of a).trans ((bd_of (a := (((tkS z tx p).1 : Int), (N : Int) + 1, up_ st' N p, va2, up_ ki' N (tkS z tx p).2.1)) ((ck_pos (by omega)).trans ((if_neg e).trans ((ck_pos (by omega)).trans ((if_pos (by omega)).trans ((bd_of t1).trans rfl)))))).trans rfl)))))
        · unfold stS
          rw [aN]
        · by_cases et : t = N
          · subst et
            unfold kdS vlS
            rw [sN, if_pos hp, if_pos hp, up_at, up_at]
            exact ⟨hp, rfl, rfl, t2⟩
          · rw [up_off et, up_off et, t3 t et]
            exact c4 t (by omega)
    · right
      have pz : p = z := by omega
      subst pz
      rw [Nat.sub_self] at c3
      have c3' : p = stS p tx N := c3
      refine ⟨((p : Int), (N : Int), st', va', ki'), (ck_pos (by omega)).trans ?_, (p : Int), N, st', va', ki', rfl, by omega, c4, c3'.symm⟩
      by_cases ek : (k : Int) < 120
      · exact (if_pos ek).trans ((ck_pos (by omega)).trans (if_neg (by omega)))
      · exact if_neg ek)
  obtain ⟨pl, N, st', va', ki', rfl, h3⟩ := h2
  exact ⟨pl, N, st', va', ki', (bd_of h1).trans rfl, h3⟩
/-- what the cut tokens are -/
def tkA (z : Nat) (tx : Nat → Int) (N : Nat) (st ki va : Nat → Int) : Prop := N ≤ 120 ∧ (∀ t, t < N → stS z tx t < z ∧ st t = (stS z tx t : Nat) ∧ ki t = kdS z tx t ∧ va t = vlS z tx t) ∧ stS z tx N = z
theorem p_isToken {n N : Nat} (hN : N ≤ 120) {t : Nat} (ht : t < 2000) : F_X9_isToken n N t = some (if t < N then 1 else 0) := by
  by_cases e : t < N
  · rw [if_pos e]
    exact (bd_of (a := (1 : Int)) ((ck_pos (by omega)).trans ((if_neg (by omega)).trans ((ck_pos (by omega)).trans ((if_pos (by omega)).trans ((ck_pos (by omega)).trans (if_pos (by omega)))))))).trans (ck_pos (by omega))
  · rw [if_neg e]
    exact (bd_of (a := (0 : Int)) ((ck_pos (by omega)).trans ((if_neg (by omega)).trans ((ck_pos (by omega)).trans (if_neg (by omega)))))).trans (ck_pos (by omega))
theorem p_tokens {n z N : Nat} {tx st ki va : Nat → Int} (h : tkA z tx N st ki va) {t : Nat} (ht : t < 2000) : F_X9_kindOf n N ki t = some (kdS z tx t) ∧ F_X9_valueOf n N va t = some (vlS z tx t) ∧ F_X9_startOf n z N st t = some ((stS z tx t : Nat) : Int) := by
  obtain ⟨h1, h2, h3⟩ := h
  have i := p_isToken (n := n) h1 ht
  have tt : ((t : Int)).toNat = t := by omega
  unfold F_X9_kindOf F_X9_valueOf F_X9_startOf
  rw [tt]
  by_cases e : t < N
  · rw [if_pos e] at i
    obtain ⟨a, b, c, d⟩ := h2 t e
    rw [← b, ← c, ← d]
    refine ⟨?_, ?_, ?_⟩
    · exact (bd_of i).trans ((bd_of (a := ki t) ((ck_pos (by decide)).trans ((if_neg (by decide)).trans (ck_pos (by omega))))).trans rfl)
    · exact (bd_of i).trans ((bd_of (a := va t) ((ck_pos (by decide)).trans ((if_neg (by decide)).trans (ck_pos (by omega))))).trans rfl)
    · exact (bd_of i).trans ((bd_of (a := st t) ((ck_pos (by decide)).trans ((if_neg (by decide)).trans (ck_pos (by omega))))).trans rfl)
  · rw [if_neg e] at i
    have s := stS_end h3 t (by omega)
    unfold kdS vlS
    rw [s, if_neg (by omega), if_neg (by omega)]
    refine ⟨?_, ?_, ?_⟩
    · exact (bd_of i).trans ((bd_of (a := (0 : Int)) ((ck_pos (by decide)).trans (if_pos rfl))).trans rfl)
    · exact (bd_of i).trans ((bd_of (a := (0 : Int)) ((ck_pos (by decide)).trans (if_pos rfl))).trans rfl)
    · exact (bd_of i).trans ((bd_of (a := (z : Int)) ((ck_pos (by decide)).trans (if_pos rfl))).trans rfl)
theorem p_scanT {n : Nat} (hn : 1000 ≤ n) {z : Nat} {tx : Nat → Int} (h : okT z tx) (t : Nat) (tv : Int) : ∃ tv' : Int, F_X12_scan n z ((atS z tx t : Nat) : Int) tv tx = some (((atS z tx (t + 1) : Nat) : Int), ((stS z tx t : Nat) : Int), kmS (kdS z tx t), tv') ∧ (kdS z tx t = 4 → tv' = vlS z tx t) := by
  have b := atS_b z tx t
  rw [atS_s]
  unfold kdS vlS
  rcases p_scan hn h (i := atS z tx t) b.1 tv with ⟨a1, tv', a2, a3⟩ | ⟨a1, a2⟩
  · have a1' : stS z tx t < z := a1
    rw [if_pos a1', if_pos a1', if_pos a1']
    exact ⟨tv', a2, a3⟩
  · have a1' : stS z tx t = z := a1
    rw [if_neg (by omega), if_neg (by omega), if_neg (by omega), a1']
    exact ⟨tv, a2, fun x => by omega⟩
