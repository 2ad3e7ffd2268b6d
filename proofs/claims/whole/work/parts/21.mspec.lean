/-! the model: its tables, and what its methods answer -/
def nP (R C : Nat) : Nat := (R + 1) * (C + 1)
def mLow (R C e : Nat) : Nat := if e < nE R C then tRow R C e * (C + 1) + tCol R C e else 0
def mHigh (R C e : Nat) : Nat := if e < nE R C then mLow R C e + (if tDown R C e then C + 1 else 1) else 0
def ccell (R C r c : Nat) : Nat := if r < R then (if c < C then r * C + c else 99) else 99
def mOne (R C e : Nat) : Nat := if e < nE R C then (if tDown R C e then ccell R C (tRow R C e) (pd (tCol R C e)) else ccell R C (pd (tRow R C e)) (tCol R C e)) else 0
def mOther (R C e : Nat) : Nat := if e < nE R C then ccell R C (tRow R C e) (tCol R C e) else 0
def inc (R C p : Nat) : List Nat := (List.range (nE R C)).filter (fun e => mLow R C e == p || mHigh R C e == p)
def sds (R C c : Nat) : List Nat := (List.range (nE R C)).filter (fun e => mOne R C e == c || mOther R C e == c)
def mEnds (R C k : Nat) : Nat := if k < 4 * nP R C then (inc R C (k / 4)).getD (k % 4) 99 else 99
def mFirst (R C p : Nat) : Nat := if p < nP R C then (inc R C p).headD 99 else 0
def mLast (R C p : Nat) : Nat := if p < nP R C then (inc R C p).getLastD 0 else 0
def mCF (R C c : Nat) : Nat := if c < R * C then (sds R C c).headD 99 else 99
def mCL (R C c : Nat) : Nat := if c < R * C then (sds R C c).getLastD 0 else 0
theorem tm_P : ∀ R, R < 5 → ∀ C, C < 4 → nP R C ≤ 20 := by decide +kernel
theorem tm_lh : ∀ R, R < 5 → ∀ C, C < 4 → ∀ e, e < nE R C → mLow R C e < nP R C ∧ mHigh R C e < nP R C := by decide +kernel
theorem tm_oo : ∀ R, R < 5 → ∀ C, C < 4 → ∀ e, e < nE R C → (mOne R C e = 99 ∨ mOne R C e < R * C) ∧ (mOther R C e = 99 ∨ mOther R C e < R * C) := by decide +kernel
theorem tm_en : ∀ R, R < 5 → ∀ C, C < 4 → ∀ k, k < 4 * nP R C → (mEnds R C k = 99 ∨ mEnds R C k < nE R C) := by decide +kernel
theorem tm_fl : ∀ R, R < 5 → ∀ C, C < 4 → ∀ p, p < nP R C → (mFirst R C p < 100 ∧ mLast R C p < 100) := by decide +kernel
theorem tm_cl : ∀ R, R < 5 → ∀ C, C < 4 → ∀ c, c < R * C → (mCF R C c < 100 ∧ mCL R C c < 100) := by decide +kernel
theorem GS.P {R C : Nat} (h : GS R C) : nP R C ≤ 20 := tm_P R (by have := h.2.1; omega) C (by have := h.2.2.2; omega)
theorem GS.lo {R C e : Nat} (h : GS R C) (he : e < nE R C) : mLow R C e < nP R C := (tm_lh R (by have := h.2.1; omega) C (by have := h.2.2.2; omega) e he).1
theorem GS.hi {R C e : Nat} (h : GS R C) (he : e < nE R C) : mHigh R C e < nP R C := (tm_lh R (by have := h.2.1; omega) C (by have := h.2.2.2; omega) e he).2
theorem GS.one {R C e : Nat} (h : GS R C) (he : e < nE R C) : mOne R C e = 99 ∨ mOne R C e < R * C := (tm_oo R (by have := h.2.1; omega) C (by have := h.2.2.2; omega) e he).1
theorem GS.oth {R C e : Nat} (h : GS R C) (he : e < nE R C) : mOther R C e = 99 ∨ mOther R C e < R * C := (tm_oo R (by have := h.2.1; omega) C (by have := h.2.2.2; omega) e he).2
theorem GS.en {R C k : Nat} (h : GS R C) (hk : k < 4 * nP R C) : mEnds R C k = 99 ∨ mEnds R C k < nE R C := tm_en R (by have := h.2.1; omega) C (by have := h.2.2.2; omega) k hk
theorem GS.fl {R C p : Nat} (h : GS R C) (hp : p < nP R C) : mFirst R C p < 100 ∧ mLast R C p < 100 := tm_fl R (by have := h.2.1; omega) C (by have := h.2.2.2; omega) p hp
theorem GS.cl {R C c : Nat} (h : GS R C) (hc : c < R * C) : mCF R C c < 100 ∧ mCL R C c < 100 := tm_cl R (by have := h.2.1; omega) C (by have := h.2.2.2; omega) c hc
/-- the cells of a LoopDiagramModel -/
def wM (cI cJ cZ : ClassId) (q : Nat → Nat) (R C : Nat) (th : Nat) (kn me : Bool) (ns he nx dr nl : Nat) (lp cu so wi us ho nh : Nat → Nat) (ke : Nat → Int64) (ta de : Nat → Nat) (se : Nat → Bool) : va_W := [
  (q 0, .inr (3, [.int (nI th), .int (nI R), .int (nI C), .int (nI (nP R C)), .int (nI (nE R C)), .ref (q 5), .ref (q 6), .ref (q 7), .ref (q 8), .ref (q 9), .ref (q 10), .ref (q 11), .ref (q 12), .ref (q 13), .int (nI nl), .ref (q 15), .ref (q 16), .int (bI kn), .int (nI ns), .ref (q 19), .int (bI me), .ref (q 21), .ref (q 22), .int (nI he), .ref (q 24), .int (nI nx), .ref (q 26), .ref (q 27), .ref (q 28), .int (nI dr), .ref (q 30), .ref (q 31)])),
  (q 5, .inl (cI, 31, .inl (fun i => nI (mLow R C i)))),
  (q 6, .inl (cI, 31, .inl (fun i => nI (mHigh R C i)))),
  (q 7, .inl (cI, 31, .inl (fun i => eI (mOne R C i)))),
  (q 8, .inl (cI, 31, .inl (fun i => eI (mOther R C i)))),
  (q 9, .inl (cI, 80, .inl (fun i => eI (mEnds R C i)))),
  (q 10, .inl (cI, 20, .inl (fun i => nI (mFirst R C i)))),
  (q 11, .inl (cI, 20, .inl (fun i => nI (mLast R C i)))),
  (q 12, .inl (cI, 12, .inl (fun i => nI (mCF R C i)))),
  (q 13, .inl (cI, 12, .inl (fun i => nI (mCL R C i)))),
  (q 15, .inl (cI, 1300, .inl (fun i => nI (lp i)))),
  (q 16, .inl (cI, 12, .inl (fun i => eI (cu i)))),
  (q 19, .inl (cI, 1300, .inl (fun i => nI (so i)))),
  (q 21, .inl (cI, 32, .inl (fun i => nI (wi i)))),
  (q 22, .inl (cI, 32, .inl (fun i => nI (us i)))),
  (q 24, .inl (cI, 2500, .inl (fun i => nI (ho i)))),
  (q 26, .inl (cI, 2500, .inl (fun i => nI (nh i)))),
  (q 27, .inl (cJ, 2500, .inr (.inl ke))),
  (q 28, .inl (cI, 4096, .inl (fun i => nI (ta i)))),
  (q 30, .inl (cI, 20, .inl (fun i => nI (de i)))),
  (q 31, .inl (cZ, 20, .inl (fun i => bI (se i))))]
/-! comparisons of codes -/
theorem eI_eq {x y : Nat} (hx : x < 2 ^ 31) (hy : y < 2 ^ 31) : eI x = eI y ↔ x = y := by
  constructor
  · intro h
    by_cases h1 : x = 99
    · rw [h1, eI_99] at h
      rw [h1]
      exact ((eI_m1 hy).mp h.symm).symm
    · by_cases h2 : y = 99
      · rw [h2, eI_99] at h
        exact absurd ((eI_m1 hx).mp h) h1
      · rw [eI_ne h1, eI_ne h2] at h
        exact (nI_eq hx hy).mp h
  · intro h; rw [h]
theorem eI_neg {x : Nat} (hx : x < 2 ^ 31) : eI x < 0 ↔ x = 99 := by
  by_cases h : x = 99
  · rw [h, eI_99]; exact ⟨fun _ => rfl, fun _ => by decide⟩
  · rw [eI_ne h]; exact ⟨fun e => absurd e (nI_pos hx), fun e => absurd e h⟩
theorem eI_nn {x : Nat} (hx : x < 2 ^ 31) : 0 ≤ eI x ↔ x ≠ 99 := by
  by_cases h : x = 99
  · rw [h, eI_99]; exact ⟨fun e => absurd e (by decide), fun e => absurd rfl e⟩
  · rw [eI_ne h]; exact ⟨fun _ => h, fun _ => nI_pos' hx⟩
section JE
variable {k : VK} {l : Launch} {D : va_G} {tys : List (ClassId × FieldType)} {R : Room} {cc : ByteArray} {nL : Nat} {own : String} {w : va_W} {cells slots pc : Nat} {lv : List (Nat × Value)} {rest : List Value}
theorem je_if_lt {x : Nat} {off : Int} {tgt : Nat} (hx : x < 2 ^ 31) (hdg : decode cc pc = .ok (.ifCond .lt off, 3)) (ht : (pc : Int) + off = (tgt : Int)) (kt : x = 99 → V k l D tys R cc nL own w cells slots (tgt) lv (rest)) (kf : x ≠ 99 → V k l D tys R cc nL own w cells slots (pc + 3) lv (rest)) : V k l D tys R cc nL own w cells slots (pc) lv (.int (eI x) :: rest) :=
  j_if_lt hdg ht (fun h => kt ((eI_neg hx).mp h)) (fun h => kf (fun e => h ((eI_neg hx).mpr e)))
theorem je_if_ge {x : Nat} {off : Int} {tgt : Nat} (hx : x < 2 ^ 31) (hdg : decode cc pc = .ok (.ifCond .ge off, 3)) (ht : (pc : Int) + off = (tgt : Int)) (kt : x ≠ 99 → V k l D tys R cc nL own w cells slots (tgt) lv (rest)) (kf : x = 99 → V k l D tys R cc nL own w cells slots (pc + 3) lv (rest)) : V k l D tys R cc nL own w cells slots (pc) lv (.int (eI x) :: rest) :=
  j_if_ge hdg ht (fun h => kt ((eI_nn hx).mp h)) (fun h => kf (Decidable.byContradiction (fun e => h ((eI_nn hx).mpr e))))
theorem je_icmp_eq {x y : Nat} {off : Int} {tgt : Nat} (hx : x < 2 ^ 31) (hy : y < 2 ^ 31) (hdg : decode cc pc = .ok (.if_icmp .eq off, 3)) (ht : (pc : Int) + off = (tgt : Int)) (kt : x = y → V k l D tys R cc nL own w cells slots (tgt) lv (rest)) (kf : x ≠ y → V k l D tys R cc nL own w cells slots (pc + 3) lv (rest)) : V k l D tys R cc nL own w cells slots (pc) lv (.int (eI y) :: .int (eI x) :: rest) :=
  j_icmp_eq hdg ht (fun h => kt ((eI_eq hx hy).mp h)) (fun h => kf (fun e => h ((eI_eq hx hy).mpr e)))
theorem je_icmp_ne {x y : Nat} {off : Int} {tgt : Nat} (hx : x < 2 ^ 31) (hy : y < 2 ^ 31) (hdg : decode cc pc = .ok (.if_icmp .ne off, 3)) (ht : (pc : Int) + off = (tgt : Int)) (kt : x ≠ y → V k l D tys R cc nL own w cells slots (tgt) lv (rest)) (kf : x = y → V k l D tys R cc nL own w cells slots (pc + 3) lv (rest)) : V k l D tys R cc nL own w cells slots (pc) lv (.int (eI y) :: .int (eI x) :: rest) :=
  j_icmp_ne hdg ht (fun h => kt (fun e => h ((eI_eq hx hy).mpr e))) (fun h => kf ((eI_eq hx hy).mp h))
end JE
/-! sets of edges, as the model holds them: the edge e is the bit 30 - e -/
def isI (S e : Nat) : Bool := S.testBit (30 - e)
def szA (S : Nat) : Nat → Nat | 0 => 0 | i + 1 => if isI S i then szA S i + 1 else szA S i
def dgA (R C S : Nat) : Nat → Nat → Nat
  | 0, _ => 0
  | i + 1, p => if isI S i then dgA R C S i p + (if mLow R C i = p then 1 else 0) + (if mHigh R C i = p then 1 else 0) else dgA R C S i p
def deg (R C S p : Nat) : Nat := dgA R C S (nE R C) p
def onA (R C S bY : Nat) : Nat → Nat → Nat
  | 0, _ => 99
  | n + 1, k => if mEnds R C k = 99 then onA R C S bY n (k + 1) else if mEnds R C k = bY then onA R C S bY n (k + 1) else if isI S (mEnds R C k) then mEnds R C k else onA R C S bY n (k + 1)
def onw (R C S p bY : Nat) : Nat := onA R C S bY 4 (4 * p)
def othr (R C p e : Nat) : Nat := if mLow R C e = p then mHigh R C e else mLow R C e
def wkA (R C S : Nat) : Nat → Nat → Nat → (Nat → Bool) → Nat × (Nat → Bool)
  | 0, p, _, se => (p, se)
  | n + 1, p, e, se => if e = 99 then (p, se) else if se (othr R C p e) then (othr R C p e, se) else wkA R C S n (othr R C p e) (onw R C S (othr R C p e) e) (va_up se (othr R C p e) true)
def wlk (R C S p : Nat) (se : Nat → Bool) : Nat × (Nat → Bool) := wkA R C S 21 p (onw R C S p 99) (va_up se p true)
def thA (de : Nat → Nat) : Nat → Bool | 0 => true | i + 1 => thA de i && decide (de i < 3)
def heA (de : Nat → Nat) : Nat → Bool | 0 => false | i + 1 => heA de i || decide (de i = 1)
def unA (de : Nat → Nat) (se : Nat → Bool) : Nat → Nat → Nat
  | 0, _ => 99
  | n + 1, p => if 0 < de p then (if se p then unA de se n (p + 1) else p) else unA de se n (p + 1)
def uns (R C : Nat) (de : Nat → Nat) (se : Nat → Bool) : Nat := unA de se (nP R C) 0
def rgF (R C S : Nat) (de : Nat → Nat) (se : Nat → Bool) : Bool × (Nat → Bool) :=
  if uns R C de se = 99 then (false, se) else if thA de (nP R C) then (if heA de (nP R C) then (false, se) else
    (decide (uns R C de (wlk R C S (uns R C de se) se).2 = 99), (wlk R C S (uns R C de se) se).2)) else (false, se)
def no0 : Nat → Bool := fun _ => false
def ilS (R C S : Nat) : Bool := (rgF R C S (deg R C S) no0).1
def ilX (R C S : Nat) : Nat → Bool := (rgF R C S (deg R C S) no0).2
def sdA (R C S c : Nat) : Nat → Nat
  | 0 => 0
  | i + 1 => if isI S i && (mOne R C i == c || mOther R C i == c) then sdA R C S c i + 1 else sdA R C S c i
def sid (R C S c : Nat) : Nat := sdA R C S c (nE R C)
def kcA (R C S : Nat) (cu : Nat → Nat) : Nat → Bool
  | 0 => true
  | i + 1 => kcA R C S cu i && (decide (cu i = 99) || decide (sid R C S i = cu i))
def kc (R C S : Nat) (cu : Nat → Nat) : Bool := kcA R C S cu (R * C)
/-- nothing lies beyond the points -/
def MJ (R C : Nat) (de : Nat → Nat) (se : Nat → Bool) : Prop := ∀ p, nP R C ≤ p → de p = 0 ∧ se p = false
theorem dgA_out {R C S p : Nat} (hG : GS R C) (hp : nP R C ≤ p) : ∀ i, i ≤ nE R C → dgA R C S i p = 0
  | 0, _ => rfl
  | i + 1, hi => by
    have h1 := hG.lo (show i < nE R C by omega)
    have h2 := hG.hi (show i < nE R C by omega)
    simp only [dgA, dgA_out hG hp i (by omega)]
    rw [if_neg (show ¬ mLow R C i = p by omega), if_neg (show ¬ mHigh R C i = p by omega)]
    split <;> rfl
/-- how many points aren't seen -/
def unc (R C : Nat) (se : Nat → Bool) : Nat := (List.range (nP R C)).countP (fun p => !se p)
theorem unc_le (R C : Nat) (se : Nat → Bool) : unc R C se ≤ nP R C := by
  have := List.countP_le_length (p := fun p => !se p) (l := List.range (nP R C))
  rw [List.length_range] at this
  exact this
theorem unc_up {R C p : Nat} {se : Nat → Bool} (hp : p < nP R C) (hs : se p = false) : unc R C (va_up se p true) < unc R C se := by
  unfold unc
  have key : ∀ n, (List.range n).countP (fun j => !(va_up se p true j)) + (if p < n then 1 else 0) = (List.range n).countP (fun j => !se j) := by
    intro n
    induction n with
    | zero => simp
    | succ n ih =>
      rw [List.range_succ, List.countP_append, List.countP_append, List.countP_singleton, List.countP_singleton]
      by_cases h1 : n = p
      · subst h1
        rw [va_up_self, hs]
        simp at ih ⊢
        omega
      · rw [va_up_ne _ _ h1]
        by_cases h2 : p < n
        · have h3 : p < n + 1 := by omega
          simp only [h2, h3, if_true] at ih ⊢
          omega
        · have h3 : ¬ p < n + 1 := by omega
          simp only [h2, h3, if_false] at ih ⊢
          omega
  have := key (nP R C)
  rw [if_pos hp] at this
  omega
