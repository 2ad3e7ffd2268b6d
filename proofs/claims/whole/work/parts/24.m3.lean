/-! the model: traces, the table, levels -/
def wht (R C S p : Nat) : Nat := if deg R C S p = 0 then 0 else if deg R C S p = 2 then 1 else 2 + (wlk R C S p no0).1
def trP (R C S k : Nat) : Nat → Int64
  | 0 => if ilS R C S then 1 else 0
  | i + 1 => if mFirst R C i < k ∧ k ≤ mLast R C i then (trP R C S k i <<< ((nI (5)).toInt64 &&& 63)) ||| (nI (wht R C S i)).toInt64 else trP R C S k i
def trC (R C S k : Nat) (cu : Nat → Nat) : Nat → Int64
  | 0 => trP R C S k (nP R C)
  | i + 1 => if cu i ≠ 99 ∧ mCF R C i < k ∧ k ≤ mCL R C i then (trC R C S k cu i <<< ((nI (3)).toInt64 &&& 63)) ||| (nI (sid R C S i)).toInt64 else trC R C S k cu i
def trc (R C S k : Nat) (cu : Nat → Nat) : Int64 := trC R C S k cu (R * C)
/-- the place in the table where a key is looked for first -/
def hI (y : Int64) : Int32 := (((y * (-7046029254386353131 : Int64))).toUInt64 >>> ((nI (52)).toInt64.toUInt64 &&& Int64.toUInt64 63)).toInt64.toInt32
def hN (y : Int64) : Nat := (y * (-7046029254386353131 : Int64)).toUInt64.toNat >>> 52
theorem u64_n {u : UInt64} (h : u.toNat < 4096) : u.toInt64.toInt32 = nI u.toNat := by
  apply Int32.toBitVec_inj.1
  show u.toBitVec.signExtend 32 = BitVec.ofNat 32 u.toNat
  rw [BitVec.signExtend_eq_setWidth_of_le _ (by decide)]
  apply BitVec.eq_of_toNat_eq
  rw [BitVec.toNat_setWidth, BitVec.toNat_ofNat]
  rfl
theorem hI_n (y : Int64) : hN y < 4096 ∧ hI y = nI (hN y) := by
  have e1 : ((nI (52)).toInt64.toUInt64 &&& Int64.toUInt64 63) = (52 : UInt64) := by decide
  have e2 : ((y * (-7046029254386353131 : Int64)).toUInt64 >>> (52 : UInt64)).toNat = hN y := by
    rw [UInt64.toNat_shiftRight]
    rfl
  have e3 : hN y < 4096 := by
    unfold hN
    rw [Nat.shiftRight_eq_div_pow]
    have := (y * (-7046029254386353131 : Int64)).toUInt64.toNat_lt
    omega
  refine ⟨e3, ?_⟩
  unfold hI
  rw [e1, u64_n (by rw [e2]; exact e3), e2]
/-- the table holds the keys -/
def HT (K : List Int64) (nx : Nat) (ke : Nat → Int64) (ta : Nat → Nat) : Prop :=
  nx = K.length ∧ (∀ i y, K[i]? = some y → ke i = y) ∧ (∀ x, x < 4096 → ta x ≤ nx) ∧ (List.range 4096).countP (fun x => decide (0 < ta x)) ≤ nx ∧
  ∀ i y, K[i]? = some y → ∃ d, d < 4096 ∧ ta ((hN y + d) % 4096) = i + 1 ∧ ∀ d2, d2 < d → 0 < ta ((hN y + d2) % 4096)
theorem cP_full {p : Nat → Bool} : ∀ n, (∀ x, x < n → p x = true) → (List.range n).countP p = n
  | 0, _ => rfl
  | n + 1, h => by
    rw [List.range_succ, List.countP_append, cP_full n (fun x hx => h x (by omega)), List.countP_singleton, if_pos (h n (by omega))]
theorem cP_le {p q : Nat → Bool} {a : Nat} : ∀ n, (∀ x, x ≠ a → p x = q x) → (List.range n).countP p ≤ (List.range n).countP q + (if a < n then 1 else 0)
  | 0, _ => by simp
  | n + 1, h => by
    rw [List.range_succ, List.countP_append, List.countP_append, List.countP_singleton, List.countP_singleton]
    have ih := cP_le n h
    by_cases e : n = a
    · subst e
      rw [if_neg (Nat.lt_irrefl n)] at ih
      rw [if_pos (Nat.lt_succ_self n)]
      split <;> split <;> omega
    · rw [h n e]
      have e3 : (if a < n + 1 then 1 else 0) = (if a < n then 1 else 0) := by
        by_cases e2 : a < n
        · rw [if_pos e2, if_pos (show a < n + 1 by omega)]
        · rw [if_neg e2, if_neg (show ¬ a < n + 1 by omega)]
      rw [e3]
      generalize (if a < n then 1 else 0) = z at *
      omega
theorem HT_free {K : List Int64} {nx : Nat} {ke : Nat → Int64} {ta : Nat → Nat} (h : HT K nx ke ta) (hn : nx < 4096) (h0 : Nat) (hh : h0 < 4096) : ∃ d, d < 4096 ∧ ta ((h0 + d) % 4096) = 0 := by
  obtain ⟨-, -, -, h4, -⟩ := h
  have : ∃ x, x < 4096 ∧ ta x = 0 := by
    refine Classical.byContradiction fun hc => ?_
    have h5 := cP_full (p := fun x => decide (0 < ta x)) 4096 (fun x hx => decide_eq_true (Nat.pos_of_ne_zero (fun e => hc ⟨x, hx, e⟩)))
    omega
  obtain ⟨x, hx, hz⟩ := this
  rcases Nat.lt_or_ge x h0 with q | q
  · exact ⟨x + 4096 - h0, by omega, by rw [show (h0 + (x + 4096 - h0)) % 4096 = x by omega]; exact hz⟩
  · exact ⟨x - h0, by omega, by rw [show (h0 + (x - h0)) % 4096 = x by omega]; exact hz⟩
theorem HT_no {K : List Int64} {nx d : Nat} {ke : Nat → Int64} {ta : Nat → Nat} {y : Int64} (h : HT K nx ke ta) (hz : ta ((hN y + d) % 4096) = 0) (hno : ∀ d2, d2 < d → 0 < ta ((hN y + d2) % 4096) ∧ ke (ta ((hN y + d2) % 4096) - 1) ≠ y) : y ∉ K := by
  intro hm
  obtain ⟨i, hi⟩ := List.getElem?_of_mem hm
  obtain ⟨-, h2, -, -, h5⟩ := h
  obtain ⟨d3, -, h6, h7⟩ := h5 i y hi
  rcases Nat.lt_trichotomy d3 d with q | q | q
  · have h8 := (hno d3 q).2
    rw [h6, Nat.add_sub_cancel] at h8
    exact h8 (h2 i y hi)
  · subst q; omega
  · have := h7 d q; omega
theorem HT_yes {K : List Int64} {nx p : Nat} {ke : Nat → Int64} {ta : Nat → Nat} {y : Int64} (h : HT K nx ke ta) (hp : p < 4096) (hz : 0 < ta p) (he : ke (ta p - 1) = y) : y ∈ K := by
  obtain ⟨h1, h2, h3, -, -⟩ := h
  have h4 := h3 p hp
  have h5 : ta p - 1 < K.length := by omega
  have h6 := h2 _ _ (List.getElem?_eq_getElem h5)
  rw [he] at h6
  rw [h6]
  exact List.getElem_mem h5
theorem HT_put {K : List Int64} {nx d : Nat} {ke : Nat → Int64} {ta : Nat → Nat} {y : Int64} (h : HT K nx ke ta) (hd : d < 4096) (hz : ta ((hN y + d) % 4096) = 0) (hno : ∀ d2, d2 < d → 0 < ta ((hN y + d2) % 4096)) : HT (K ++ [y]) (nx + 1) (va_up ke nx y) (va_up ta ((hN y + d) % 4096) (nx + 1)) := by
  obtain ⟨h1, h2, h3, h4, h5⟩ := h
  have hlast : ∀ i z, (K ++ [y])[i]? = some z → (i < nx ∧ K[i]? = some z) ∨ (i = nx ∧ z = y) := fun i z hi => by
    by_cases e : i < K.length
    · rw [List.getElem?_append_left e] at hi
      exact Or.inl ⟨by omega, hi⟩
    · have h3 := (List.getElem?_eq_some_iff.mp hi).1
      rw [List.length_append, List.length_singleton] at h3
      have h4 : i = K.length := by omega
      subst h4
      simp at hi
      exact Or.inr ⟨by omega, hi.symm⟩
  refine ⟨by rw [List.length_append, List.length_singleton]; omega, fun i z hi => ?_, fun x hx => ?_, ?_, fun i z hi => ?_⟩
  · rcases hlast i z hi with ⟨q, hi⟩ | ⟨rfl, rfl⟩
    · rw [va_up_ne _ _ (by omega)]; exact h2 i z hi
    · exact va_up_self _ _ _
  · by_cases e : x = (hN y + d) % 4096
    · rw [e, va_up_self]; exact Nat.le_refl _
    · rw [va_up_ne _ _ e]; have := h3 x hx; omega
  · have := cP_le (p := fun x => decide (0 < va_up ta ((hN y + d) % 4096) (nx + 1) x)) (q := fun x => decide (0 < ta x)) (a := (hN y + d) % 4096) 4096 (fun x hx => by rw [va_up_ne _ _ hx])
    rw [if_pos (Nat.mod_lt _ (by decide))] at this
    omega
  · have hnz : ∀ p, 0 < ta p → 0 < va_up ta ((hN y + d) % 4096) (nx + 1) p := fun p hp => by
      by_cases e : p = (hN y + d) % 4096
      · rw [e, va_up_self]; omega
      · rw [va_up_ne _ _ e]; exact hp
    rcases hlast i z hi with ⟨q, hi⟩ | ⟨rfl, rfl⟩
    · obtain ⟨d3, h6, h7, h8⟩ := h5 i z hi
      refine ⟨d3, h6, ?_, fun d2 hd2 => hnz _ (h8 d2 hd2)⟩
      rw [va_up_ne _ _ (fun e => by rw [e, hz] at h7; omega)]
      exact h7
    · exact ⟨d, hd, va_up_self _ _ _, fun d2 hd2 => hnz _ (hno d2 hd2)⟩
theorem HT_nil {ke : Nat → Int64} {ta : Nat → Nat} (h : ∀ x, x < 4096 → ta x = 0) : HT [] 0 ke ta := by
  refine ⟨rfl, fun i y h => by simp at h, fun x hx => by rw [h x hx]; exact Nat.le_refl _, ?_, fun i y h => by simp at h⟩
  have : ∀ n, n ≤ 4096 → (List.range n).countP (fun x => decide (0 < ta x)) = 0 := by
    intro n
    induction n with
    | zero => intro _; rfl
    | succ n ih =>
      intro hn
      rw [List.range_succ, List.countP_append, ih (by omega), List.countP_singleton, h n (by omega)]
      rfl
  rw [this 4096 (Nat.le_refl _)]
  exact Nat.le_refl _
def offK (R C : Nat) (cu : Nat → Nat) (k : Nat) (acc : List Nat) (S : Nat) : List Nat :=
  if alv R C S k cu then (if trc R C S k cu ∈ acc.map (fun s => trc R C s k cu) then acc else acc ++ [S]) else acc
def offL (R C : Nat) (cu : Nat → Nat) (k : Nat) (acc l : List Nat) : List Nat := l.foldl (fun acc S => offK R C cu (k + 1) (offK R C cu (k + 1) acc S) (S ||| 2 ^ (30 - k))) acc
def Lm (R C : Nat) (cu : Nat → Nat) : Nat → List Nat
  | 0 => [0]
  | k + 1 => if k < nE R C then offL R C cu k [] (Lm R C cu k) else []
/-- so far as i of the held ones are through -/
def offI (R C : Nat) (cu : Nat → Nat) (k i : Nat) : List Nat := if k < nE R C then offL R C cu k [] ((Lm R C cu k).take i) else []
def usf (SO : List Nat) (S k : Nat) : Bool := SO.any (fun y => decide (y / 2 ^ (31 - k) = S / 2 ^ (31 - k)))
def usM (R C : Nat) (cu : Nat → Nat) (SO : List Nat) (k : Nat) : Nat := (Lm R C cu k).countP (fun S => usf SO S k)
theorem offK_pre (R C : Nat) (cu : Nat → Nat) (k : Nat) (acc : List Nat) (S : Nat) : acc <+: offK R C cu k acc S := by
  unfold offK
  split
  · split
    · exact List.prefix_refl _
    · exact List.prefix_append _ _
  · exact List.prefix_refl _
theorem offL_pre (R C : Nat) (cu : Nat → Nat) (k : Nat) : ∀ (l acc : List Nat), acc <+: offL R C cu k acc l
  | [], acc => List.prefix_refl _
  | s :: l, acc => ((offK_pre R C cu (k + 1) acc s).trans (offK_pre _ _ _ _ _ _)).trans (offL_pre R C cu k l _)
theorem offL_app (R C : Nat) (cu : Nat → Nat) (k : Nat) (acc x y : List Nat) : offL R C cu k acc (x ++ y) = offL R C cu k (offL R C cu k acc x) y := by
  unfold offL; rw [List.foldl_append]
theorem offI_s {R C : Nat} {cu : Nat → Nat} {k i s : Nat} (hk : k < nE R C) (h : (Lm R C cu k)[i]? = some s) : offI R C cu k (i + 1) = offK R C cu (k + 1) (offK R C cu (k + 1) (offI R C cu k i) s) (s ||| 2 ^ (30 - k)) := by
  unfold offI
  rw [if_pos hk, if_pos hk, take_get h, offL_app]
  rfl
theorem offI_pre {R C : Nat} {cu : Nat → Nat} {k i : Nat} : offI R C cu k i <+: Lm R C cu (k + 1) := by
  unfold offI
  show _ <+: (if k < nE R C then offL R C cu k [] (Lm R C cu k) else [])
  by_cases hk : k < nE R C
  · rw [if_pos hk, if_pos hk]
    have h : offL R C cu k [] ((Lm R C cu k).take i) <+: offL R C cu k [] ((Lm R C cu k).take i ++ (Lm R C cu k).drop i) := by
      rw [offL_app]
      exact offL_pre R C cu k _ _
    rw [List.take_append_drop] at h
    exact h
  · rw [if_neg hk]; exact List.nil_prefix
theorem offI_e {R C : Nat} {cu : Nat → Nat} {k : Nat} : offI R C cu k (Lm R C cu k).length = Lm R C cu (k + 1) := by
  unfold offI
  rw [List.take_length]
  rfl
theorem offI_0 {R C : Nat} {cu : Nat → Nat} {k : Nat} : offI R C cu k 0 = [] := by
  unfold offI
  split <;> simp [offL]
theorem offK_lt {R C : Nat} {cu : Nat → Nat} {k : Nat} {acc : List Nat} {S : Nat} (h1 : ∀ x ∈ acc, x < 2 ^ 31) (h2 : S < 2 ^ 31) : ∀ x ∈ offK R C cu k acc S, x < 2 ^ 31 := by
  intro x hx
  unfold offK at hx
  split at hx
  · split at hx
    · exact h1 x hx
    · rcases List.mem_append.mp hx with h | h
      · exact h1 x h
      · rw [List.mem_singleton.mp h]; exact h2
  · exact h1 x hx
theorem Lm_lt {R C : Nat} {cu : Nat → Nat} : ∀ {k : Nat}, ∀ x ∈ Lm R C cu k, x < 2 ^ 31
  | 0, x, h => by
    simp only [Lm, List.mem_singleton] at h
    omega
  | k + 1, x, h => by
    have key : ∀ (l acc : List Nat), (∀ x ∈ acc, x < 2 ^ 31) → (∀ x ∈ l, x < 2 ^ 31) → ∀ x ∈ offL R C cu k acc l, x < 2 ^ 31 := by
      intro l
      induction l with
      | nil => intro acc h1 _ x hx; exact h1 x hx
      | cons y l ih =>
        intro acc h1 h2 x hx
        have hy := h2 y List.mem_cons_self
        exact ih _ (offK_lt (offK_lt h1 hy) (Nat.or_lt_two_pow hy (p30 k))) (fun z hz => h2 z (List.mem_cons_of_mem _ hz)) x hx
    simp only [Lm] at h
    split at h
    · exact key _ [] (fun x hx => absurd hx List.not_mem_nil) (fun x hx => Lm_lt x hx) x h
    · exact absurd h List.not_mem_nil
theorem cP_take {L : List Nat} {p : Nat → Bool} {i y : Nat} (h : L[i]? = some y) : (L.take (i + 1)).countP p = (L.take i).countP p + (if p y then 1 else 0) := by
  rw [take_get h, List.countP_append, List.countP_singleton]
theorem any_i {L : List Nat} {n : Nat} {f : Nat → Nat} (h : Hl L n f) (p : Nat → Bool) : L.any p = true ↔ ∃ j, j < n ∧ p (f j) = true := by
  obtain ⟨rfl, h2⟩ := h
  rw [List.any_eq_true]
  constructor
  · rintro ⟨y, hy, hp⟩
    obtain ⟨j, hj⟩ := List.getElem?_of_mem hy
    exact ⟨j, (List.getElem?_eq_some_iff.mp hj).1, by rw [h2 j y hj]; exact hp⟩
  · rintro ⟨j, hj, hp⟩
    refine ⟨L[j], List.getElem_mem hj, ?_⟩
    rw [← h2 j _ (List.getElem?_eq_getElem hj)]
    exact hp
set_option maxHeartbeats 4000000 in
set_option maxRecDepth 100000 in
theorem c_trace (l : Launch) (hfl : l.flags = flags0) (D : va_G) (cI cJ cZ : ClassId) (q : Nat → Nat) (R C : Nat) (hG : GS R C) (th : Nat) (kn me : Bool) (ns he nx dr nl : Nat) (lp cu so wi us ho nh : Nat → Nat) (ke : Nat → Int64) (ta de : Nat → Nat) (se : Nat → Bool) (hJ : MJ R C de se) (hcu : CU R C cu) (S kq : Nat) (hS : S < 2 ^ 31) (hk : kq < 100) : Ct l yX3_trace cX3_trace 7 (Option.some FieldType.long) ({ frames := 5, cells := 0, slots := 0, locals := 113 } : Room) D (tys3 cI cJ cZ) (tys3 cI cJ cZ) (wM cI cJ cZ q R C th kn me ns he nx dr nl lp cu so wi us ho nh ke ta de se) [.ref (q 0), .int (nI (S)), .int (nI (kq))] (fun r u => r = some (.long (trc R C S kq cu)) ∧ ∃ se2 : Nat → Bool, MJ R C (deg R C S) se2 ∧ u = wM cI cJ cZ q R C th kn me ns he nx dr nl lp cu so wi us ho nh ke ta (deg R C S) se2) 0 0 := by
  refine Ct.of hfl (by decide) (Nat.le_of_ble_eq_true rfl) ?_
  intro k hR _
  have hR4 := hG.2.1
  have hC3 := hG.2.2.2
  have hR1 := hG.1
  have hC1 := hG.2.2.1
  have hE := hG.E
  have hRC := hG.RC
  have hE4 := hG.E4
  have hP := hG.P
  show V k l D (tys3 cI cJ cZ) ({ frames := 5, cells := 0, slots := 0, locals := 113 } : Room) cX3_trace 7 RX3 (wM cI cJ cZ q R C th kn me ns he nx dr nl lp cu so wi us ho nh ke ta de se) 0 0 0 [(0, .ref (q 0)), (1, .int (nI (S))), (2, .int (nI (kq)))] []
  refine j_aload_n dX3_trace_0 rfl 0 rfl ?_
  refine j_iload_n dX3_trace_1 rfl 1 rfl ?_
  refine j_vW (av := [.int (nI (S))]) (c_isLoopSet l hfl D cI cJ cZ q R C hG th kn me ns he nx dr nl lp cu so wi us ho nh ke ta de se (hJ) (S) (by omega)) 0 rfl rfl mw2_212 mw2_214 msel14 mw1_4 mw2_215 rfl hd_X3_isLoopSet rfl ⟨rfl, rfl⟩ ⟨Nat.le_of_ble_eq_true rfl, Nat.le_of_ble_eq_true rfl⟩ ⟨Nat.zero_le _, Nat.zero_le _⟩ (Nat.le_of_ble_eq_true rfl) rfl dX3_trace_2 ?_
  rintro _ _ ⟨rfl, rfl⟩
  refine j_st (st' := [.int (bI ((ilS R C S)))]) rfl ?_
  refine jb_if_eq (tgt := 12) (b := (ilS R C S)) dX3_trace_5 (by decide) (fun c5 => ?_) (fun c5 => ?_)
  · refine j_lconst (v := 0) dX3_trace_12 (by decide) ?_
    refine j_topl (y := trP R C S kq 0) (by rw [show trP R C S kq 0 = 0 from by simp [trP, c5]]) ?_
    refine j_lstore_n [(3, .long (trP R C S kq 0)), (0, .ref (q 0)), (1, .int (nI (S))), (2, .int (nI (kq)))] dX3_trace_13 rfl (by decide) rfl ?_
    refine j_aload_n dX3_trace_14 rfl 1 rfl ?_
    refine j_iload_n dX3_trace_15 rfl 2 rfl ?_
    refine j_vW (av := [.int (nI (S))]) (c_measure l hfl D cI cJ cZ q R C hG th kn me ns he nx dr nl lp cu so wi us ho nh ke ta (deg R C S) (ilX R C S) (MJ_of hG (ilX_out hG)) (S) (by omega)) 0 rfl rfl mw2_216 mw2_218 msel15 mw1_4 mw2_219 rfl hd_X3_measure rfl ⟨rfl, rfl⟩ ⟨Nat.le_of_ble_eq_true rfl, Nat.le_of_ble_eq_true rfl⟩ ⟨Nat.zero_le _, Nat.zero_le _⟩ (Nat.le_of_ble_eq_true rfl) rfl dX3_trace_16 ?_
    rintro _ _ ⟨rfl, rfl⟩
    refine j_st (st' := []) rfl ?_
    refine j_iconst (v := nI (0)) dX3_trace_19 (by decide) ?_
    refine j_istore [(5, .int (nI (0))), (3, .long (trP R C S kq 0)), (0, .ref (q 0)), (1, .int (nI (S))), (2, .int (nI (kq)))] dX3_trace_20 (by decide) rfl ?_
    refine j_sub [2, 3, 4, 1, 0] [(0, .ref (q 0)), (1, .int (nI (S))), (2, .int (nI (kq))), (3, .long (trP R C S kq 0)), (5, .int (nI (0)))] rfl ?_
    have loop22 : ∀ (n : Nat) (i : Nat) (se1 : Nat → Bool), (nP R C < i + n) → (i ≤ nP R C) → (∀ x, nP R C ≤ x → se1 x = false) → V k l D (tys3 cI cJ cZ) ({ frames := 5, cells := 0, slots := 0, locals := 113 } : Room) cX3_trace 7 RX3 (wM cI cJ cZ q R C th kn me ns he nx dr nl lp cu so wi us ho nh ke ta (deg R C S) se1) 0 0 22 [(0, .ref (q 0)), (1, .int (nI (S))), (2, .int (nI (kq))), (3, .long (trP R C S kq i)), (5, .int (nI (i)))] [] := by
      intro n
      induction n with
      | zero => intro i se1 hm hi hse1; exfalso; omega
      | succ n ih22 =>
        intro i se1 hm hi hse1
        refine j_iload dX3_trace_22 4 rfl ?_
        refine j_aload_n dX3_trace_24 rfl 0 rfl ?_
        refine gf_X3_79 0 rfl (rfl) dX3_trace_25 ?_
        refine jn_icmp_ge (tgt := 133) (a := i) (b := nP R C) (by omega) (by omega) dX3_trace_28 (by decide) (fun c28 => ?_) (fun c28 => ?_)
        · refine j_iconst (v := nI (0)) dX3_trace_133 (by decide) ?_
          refine j_istore [(5, .int (nI (0))), (0, .ref (q 0)), (1, .int (nI (S))), (2, .int (nI (kq))), (3, .long (trP R C S kq i))] dX3_trace_134 (by decide) rfl ?_
          have hiP : i = nP R C := by omega
          refine j_lv (lv' := [(5, .int (nI (0))), (0, .ref (q 0)), (1, .int (nI (S))), (2, .int (nI (kq))), (3, .long (trC R C S kq cu 0))]) (by rw [hiP]; rfl) ?_
          refine j_sub [1, 2, 3, 4, 0] [(0, .ref (q 0)), (1, .int (nI (S))), (2, .int (nI (kq))), (3, .long (trC R C S kq cu 0)), (5, .int (nI (0)))] rfl ?_
          have loop136 : ∀ (n : Nat) (j : Nat), (R * C < j + n) → (j ≤ R * C) → V k l D (tys3 cI cJ cZ) ({ frames := 5, cells := 0, slots := 0, locals := 113 } : Room) cX3_trace 7 RX3 (wM cI cJ cZ q R C th kn me ns he nx dr nl lp cu so wi us ho nh ke ta (deg R C S) se1) 0 0 136 [(0, .ref (q 0)), (1, .int (nI (S))), (2, .int (nI (kq))), (3, .long (trC R C S kq cu j)), (5, .int (nI (j)))] [] := by
            intro n
            induction n with
            | zero => intro j hm3 hj; exfalso; omega
            | succ n ih136 =>
              intro j hm3 hj
              refine j_iload dX3_trace_136 4 rfl ?_
              refine j_aload_n dX3_trace_138 rfl 0 rfl ?_
              refine gf_X3_72 0 rfl (rfl) dX3_trace_139 ?_
              refine j_aload_n dX3_trace_142 rfl 0 rfl ?_
              refine gf_X3_76 0 rfl (rfl) dX3_trace_143 ?_
              refine jn_imul (v := R * C) dX3_trace_146 rfl ?_
              refine jn_icmp_ge (tgt := 201) (a := j) (b := R * C) (by omega) (by omega) dX3_trace_147 (by decide) (fun c147 => ?_) (fun c147 => ?_)
              · refine j_lload_n dX3_trace_201 rfl 3 rfl ?_
                exact j_lret (tys' := []) rfl hR dX3_trace_202 (⟨by rw [show j = R * C by omega]; rfl, se1, MJ_of hG hse1, rfl⟩)
              · refine j_aload_n dX3_trace_150 rfl 0 rfl ?_
                refine gf_X3_40 0 rfl (rfl) dX3_trace_151 ?_
                refine j_iload dX3_trace_154 4 rfl ?_
                refine jn_iald (v := eI (cu j)) 11 0 rfl rfl (by omega) (by omega) (rfl) dX3_trace_156 ?_
                refine je_if_lt (tgt := 195) (x := cu j) (by have := hcu j (by omega); omega) dX3_trace_157 (by decide) (fun c157 => ?_) (fun c157 => ?_)
                · refine j_lv (lv' := [(0, .ref (q 0)), (1, .int (nI (S))), (2, .int (nI (kq))), (3, .long (trC R C S kq cu (j + 1))), (5, .int (nI (j)))]) (by rw [show trC R C S kq cu (j + 1) = trC R C S kq cu j from by simp only [trC]; rw [if_neg (fun h => absurd c157 h.1)]]) ?_
                  refine j_iinc (n0 := 4) (v := nI (j + 1)) [(5, .int (nI (j + 1))), (0, .ref (q 0)), (1, .int (nI (S))), (2, .int (nI (kq))), (3, .long (trC R C S kq cu (j + 1)))] dX3_trace_195 rfl (by exact nI_add (j) 1) (by decide) rfl ?_
                  refine j_goto (tgt := 136) dX3_trace_198 (by decide) ?_
                  refine j_sub [1, 2, 3, 4, 0] [(0, .ref (q 0)), (1, .int (nI (S))), (2, .int (nI (kq))), (3, .long (trC R C S kq cu (j + 1))), (5, .int (nI (j + 1)))] rfl ?_
                  exact ih136 (j + 1) (by omega) (by omega)
                · refine j_aload_n dX3_trace_160 rfl 0 rfl ?_
                  refine gf_X3_31 0 rfl (rfl) dX3_trace_161 ?_
                  refine j_iload dX3_trace_164 4 rfl ?_
                  refine jn_iald (v := nI (mCF R C j)) 8 0 rfl rfl (by omega) (by omega) (rfl) dX3_trace_166 ?_
                  refine j_iload_n dX3_trace_167 rfl 2 rfl ?_
                  refine jn_icmp_ge (tgt := 195) (a := mCF R C j) (b := kq) (by have := (hG.cl (show j < R * C by omega)).1; omega) (by omega) dX3_trace_168 (by decide) (fun c168 => ?_) (fun c168 => ?_)
                  · refine j_lv (lv' := [(0, .ref (q 0)), (1, .int (nI (S))), (2, .int (nI (kq))), (3, .long (trC R C S kq cu (j + 1))), (5, .int (nI (j)))]) (by rw [show trC R C S kq cu (j + 1) = trC R C S kq cu j from by simp only [trC]; rw [if_neg (fun h => absurd h.2.1 (Nat.not_lt.mpr c168))]]) ?_
                    refine j_iinc (n0 := 4) (v := nI (j + 1)) [(5, .int (nI (j + 1))), (0, .ref (q 0)), (1, .int (nI (S))), (2, .int (nI (kq))), (3, .long (trC R C S kq cu (j + 1)))] dX3_trace_195 rfl (by exact nI_add (j) 1) (by decide) rfl ?_
                    refine j_goto (tgt := 136) dX3_trace_198 (by decide) ?_
                    refine j_sub [1, 2, 3, 4, 0] [(0, .ref (q 0)), (1, .int (nI (S))), (2, .int (nI (kq))), (3, .long (trC R C S kq cu (j + 1))), (5, .int (nI (j + 1)))] rfl ?_
                    exact ih136 (j + 1) (by omega) (by omega)
                  · refine j_aload_n dX3_trace_171 rfl 0 rfl ?_
                    refine gf_X3_34 0 rfl (rfl) dX3_trace_172 ?_
                    refine j_iload dX3_trace_175 4 rfl ?_
                    refine jn_iald (v := nI (mCL R C j)) 9 0 rfl rfl (by omega) (by omega) (rfl) dX3_trace_177 ?_
                    refine j_iload_n dX3_trace_178 rfl 2 rfl ?_
                    refine jn_icmp_lt (tgt := 195) (a := mCL R C j) (b := kq) (by have := (hG.cl (show j < R * C by omega)).2; omega) (by omega) dX3_trace_179 (by decide) (fun c179 => ?_) (fun c179 => ?_)
                    · refine j_lv (lv' := [(0, .ref (q 0)), (1, .int (nI (S))), (2, .int (nI (kq))), (3, .long (trC R C S kq cu (j + 1))), (5, .int (nI (j)))]) (by rw [show trC R C S kq cu (j + 1) = trC R C S kq cu j from by simp only [trC]; rw [if_neg (fun h => absurd h.2.2 (Nat.not_le.mpr c179))]]) ?_
                      refine j_iinc (n0 := 4) (v := nI (j + 1)) [(5, .int (nI (j + 1))), (0, .ref (q 0)), (1, .int (nI (S))), (2, .int (nI (kq))), (3, .long (trC R C S kq cu (j + 1)))] dX3_trace_195 rfl (by exact nI_add (j) 1) (by decide) rfl ?_
                      refine j_goto (tgt := 136) dX3_trace_198 (by decide) ?_
                      refine j_sub [1, 2, 3, 4, 0] [(0, .ref (q 0)), (1, .int (nI (S))), (2, .int (nI (kq))), (3, .long (trC R C S kq cu (j + 1))), (5, .int (nI (j + 1)))] rfl ?_
                      exact ih136 (j + 1) (by omega) (by omega)
                    · refine j_lload_n dX3_trace_182 rfl 3 rfl ?_
                      refine j_iconst (v := nI (3)) dX3_trace_183 (by decide) ?_
                      refine j_lshl dX3_trace_184 rfl ?_
                      refine j_aload_n dX3_trace_185 rfl 0 rfl ?_
                      refine j_iload_n dX3_trace_186 rfl 1 rfl ?_
                      refine j_iload dX3_trace_187 4 rfl ?_
                      refine j_vW (av := [.int (nI (S)), .int (nI (j))]) (c_sides l hfl D cI cJ cZ q R C hG th kn me ns he nx dr nl lp cu so wi us ho nh ke ta (deg R C S) se1 (S) (j) (by omega) (by omega)) 0 rfl rfl mw3_141 mw3_143 msel25 mw1_4 mw3_144 rfl hd_X3_sides rfl ⟨rfl, rfl⟩ ⟨Nat.le_of_ble_eq_true rfl, Nat.le_of_ble_eq_true rfl⟩ ⟨Nat.zero_le _, Nat.zero_le _⟩ (Nat.le_of_ble_eq_true rfl) rfl dX3_trace_189 ?_
                      rintro _ _ ⟨rfl, rfl⟩
                      refine j_st (st' := [.int (nI (sid R C S j)), .long (((trC R C S kq cu j) <<< ((nI (3)).toInt64 &&& 63)))]) rfl ?_
                      refine j_i2l dX3_trace_192 rfl ?_
                      refine j_lor dX3_trace_193 rfl ?_
                      refine j_topl (y := trC R C S kq cu (j + 1)) (by rw [show trC R C S kq cu (j + 1) = ((((trC R C S kq cu j) <<< ((nI (3)).toInt64 &&& 63))) ||| ((nI (sid R C S j)).toInt64)) from by simp only [trC]; rw [if_pos ⟨c157, c168, c179⟩]]) ?_
                      refine j_lstore_n [(3, .long (trC R C S kq cu (j + 1))), (0, .ref (q 0)), (1, .int (nI (S))), (2, .int (nI (kq))), (5, .int (nI (j)))] dX3_trace_194 rfl (by decide) rfl ?_
                      refine j_iinc (n0 := 4) (v := nI (j + 1)) [(5, .int (nI (j + 1))), (3, .long (trC R C S kq cu (j + 1))), (0, .ref (q 0)), (1, .int (nI (S))), (2, .int (nI (kq)))] dX3_trace_195 rfl (by exact nI_add (j) 1) (by decide) rfl ?_
                      refine j_goto (tgt := 136) dX3_trace_198 (by decide) ?_
                      refine j_sub [2, 3, 4, 1, 0] [(0, .ref (q 0)), (1, .int (nI (S))), (2, .int (nI (kq))), (3, .long (trC R C S kq cu (j + 1))), (5, .int (nI (j + 1)))] rfl ?_
                      exact ih136 (j + 1) (by omega) (by omega)
          exact loop136 (R * C + 2) 0 (by omega) (by omega)
        · refine j_aload_n dX3_trace_31 rfl 0 rfl ?_
          refine gf_X3_25 0 rfl (rfl) dX3_trace_32 ?_
          refine j_iload dX3_trace_35 4 rfl ?_
          refine jn_iald (v := nI (mFirst R C i)) 6 0 rfl rfl (by omega) (by omega) (rfl) dX3_trace_37 ?_
          refine j_iload_n dX3_trace_38 rfl 2 rfl ?_
          refine jn_icmp_ge (tgt := 127) (a := mFirst R C i) (b := kq) (by have := (hG.fl (show i < nP R C by omega)).1; omega) (by omega) dX3_trace_39 (by decide) (fun c39 => ?_) (fun c39 => ?_)
          · refine j_lv (lv' := [(0, .ref (q 0)), (1, .int (nI (S))), (2, .int (nI (kq))), (3, .long (trP R C S kq (i + 1))), (5, .int (nI (i)))]) (by rw [show trP R C S kq (i + 1) = trP R C S kq i from by simp only [trP]; rw [if_neg (fun h => absurd h.1 (Nat.not_lt.mpr c39))]]) ?_
            refine j_iinc (n0 := 4) (v := nI (i + 1)) [(5, .int (nI (i + 1))), (0, .ref (q 0)), (1, .int (nI (S))), (2, .int (nI (kq))), (3, .long (trP R C S kq (i + 1)))] dX3_trace_127 rfl (by exact nI_add (i) 1) (by decide) rfl ?_
            refine j_goto (tgt := 22) dX3_trace_130 (by decide) ?_
            refine j_sub [1, 2, 3, 4, 0] [(0, .ref (q 0)), (1, .int (nI (S))), (2, .int (nI (kq))), (3, .long (trP R C S kq (i + 1))), (5, .int (nI (i + 1)))] rfl ?_
            exact ih22 (i + 1) (se1) (by omega) (by omega) hse1
          · refine j_aload_n dX3_trace_42 rfl 0 rfl ?_
            refine gf_X3_28 0 rfl (rfl) dX3_trace_43 ?_
            refine j_iload dX3_trace_46 4 rfl ?_
            refine jn_iald (v := nI (mLast R C i)) 7 0 rfl rfl (by omega) (by omega) (rfl) dX3_trace_48 ?_
            refine j_iload_n dX3_trace_49 rfl 2 rfl ?_
            refine jn_icmp_lt (tgt := 127) (a := mLast R C i) (b := kq) (by have := (hG.fl (show i < nP R C by omega)).2; omega) (by omega) dX3_trace_50 (by decide) (fun c50 => ?_) (fun c50 => ?_)
            · refine j_lv (lv' := [(0, .ref (q 0)), (1, .int (nI (S))), (2, .int (nI (kq))), (3, .long (trP R C S kq (i + 1))), (5, .int (nI (i)))]) (by rw [show trP R C S kq (i + 1) = trP R C S kq i from by simp only [trP]; rw [if_neg (fun h => absurd h.2 (Nat.not_le.mpr c50))]]) ?_
              refine j_iinc (n0 := 4) (v := nI (i + 1)) [(5, .int (nI (i + 1))), (0, .ref (q 0)), (1, .int (nI (S))), (2, .int (nI (kq))), (3, .long (trP R C S kq (i + 1)))] dX3_trace_127 rfl (by exact nI_add (i) 1) (by decide) rfl ?_
              refine j_goto (tgt := 22) dX3_trace_130 (by decide) ?_
              refine j_sub [1, 2, 3, 4, 0] [(0, .ref (q 0)), (1, .int (nI (S))), (2, .int (nI (kq))), (3, .long (trP R C S kq (i + 1))), (5, .int (nI (i + 1)))] rfl ?_
              exact ih22 (i + 1) (se1) (by omega) (by omega) hse1
            · refine j_iconst (v := nI (0)) dX3_trace_53 (by decide) ?_
              refine j_istore [(6, .int (nI (0))), (0, .ref (q 0)), (1, .int (nI (S))), (2, .int (nI (kq))), (3, .long (trP R C S kq i)), (5, .int (nI (i)))] dX3_trace_54 (by decide) rfl ?_
              refine j_sub [1, 2, 3, 4, 5, 0] [(0, .ref (q 0)), (1, .int (nI (S))), (2, .int (nI (kq))), (3, .long (trP R C S kq i)), (5, .int (nI (i))), (6, .int (nI (0)))] rfl ?_
              have loop56 : ∀ (n : Nat) (x2 : Nat) (se2 : Nat → Bool), (nP R C < x2 + n) → (x2 ≤ nP R C) → (∀ x, x < x2 → se2 x = false) → (∀ x, nP R C ≤ x → se2 x = false) → V k l D (tys3 cI cJ cZ) ({ frames := 5, cells := 0, slots := 0, locals := 113 } : Room) cX3_trace 7 RX3 (wM cI cJ cZ q R C th kn me ns he nx dr nl lp cu so wi us ho nh ke ta (deg R C S) se2) 0 0 56 [(0, .ref (q 0)), (1, .int (nI (S))), (2, .int (nI (kq))), (3, .long (trP R C S kq i)), (5, .int (nI (i))), (6, .int (nI (x2)))] [] := by
                intro n
                induction n with
                | zero => intro x2 se2 hm2 hx2 hz hoo; exfalso; omega
                | succ n ih56 =>
                  intro x2 se2 hm2 hx2 hz hoo
                  refine j_iload dX3_trace_56 5 rfl ?_
                  refine j_aload_n dX3_trace_58 rfl 0 rfl ?_
                  refine gf_X3_79 0 rfl (rfl) dX3_trace_59 ?_
                  refine jn_icmp_ge (tgt := 79) (a := x2) (b := nP R C) (by omega) (by omega) dX3_trace_62 (by decide) (fun c62 => ?_) (fun c62 => ?_)
                  · have e2 : se2 = no0 := by
                      funext j
                      rcases Nat.lt_or_ge j x2 with h | h
                      · exact hz j h
                      · exact hoo j (by omega)
                    rw [e2]
                    refine j_aload_n dX3_trace_79 rfl 0 rfl ?_
                    refine gf_X3_65 0 rfl (rfl) dX3_trace_80 ?_
                    refine j_iload dX3_trace_83 4 rfl ?_
                    refine jn_iald (v := nI ((deg R C S) i)) 19 0 rfl rfl (by omega) (by omega) (rfl) dX3_trace_85 ?_
                    refine jn_if_ne (tgt := 93) (a := (deg R C S) i) (deg_lt hG) dX3_trace_86 (by decide) (fun c86 => ?_) (fun c86 => ?_)
                    · refine j_aload_n dX3_trace_93 rfl 0 rfl ?_
                      refine gf_X3_65 0 rfl (rfl) dX3_trace_94 ?_
                      refine j_iload dX3_trace_97 4 rfl ?_
                      refine jn_iald (v := nI ((deg R C S) i)) 19 0 rfl rfl (by omega) (by omega) (rfl) dX3_trace_99 ?_
                      refine j_iconst (v := nI (2)) dX3_trace_100 (by decide) ?_
                      refine jn_icmp_ne (tgt := 108) (a := (deg R C S) i) (b := 2) (deg_lt hG) (by omega) dX3_trace_101 (by decide) (fun c101 => ?_) (fun c101 => ?_)
                      · refine j_iconst (v := nI (2)) dX3_trace_108 (by decide) ?_
                        refine j_aload_n dX3_trace_109 rfl 0 rfl ?_
                        refine j_iload_n dX3_trace_110 rfl 1 rfl ?_
                        refine j_iload dX3_trace_111 4 rfl ?_
                        refine j_vW (av := [.int (nI (S)), .int (nI (i))]) (c_walk l hfl D cI cJ cZ q R C hG th kn me ns he nx dr nl lp cu so wi us ho nh ke ta (deg R C S) no0 (S) (i) (by omega) (by omega)) 0 rfl rfl mw2_239 mw3_1 msel20 mw1_4 mw3_2 rfl hd_X3_walk rfl ⟨rfl, rfl⟩ ⟨Nat.le_of_ble_eq_true rfl, Nat.le_of_ble_eq_true rfl⟩ ⟨Nat.zero_le _, Nat.zero_le _⟩ (Nat.le_of_ble_eq_true rfl) rfl dX3_trace_113 ?_
                        rintro _ _ ⟨rfl, rfl⟩
                        refine j_st (st' := [.int (nI ((wlk R C S i no0).1)), .int (nI (2))]) rfl ?_
                        refine jn_iadd (v := 2 + ((wlk R C S i no0).1)) dX3_trace_116 rfl ?_
                        refine j_topi (y := nI (wht R C S i)) (by rw [show wht R C S i = 2 + ((wlk R C S i no0).1) from by simp [wht, c86, c101]]) ?_
                        refine j_istore [(6, .int (nI (wht R C S i))), (0, .ref (q 0)), (1, .int (nI (S))), (2, .int (nI (kq))), (3, .long (trP R C S kq i)), (5, .int (nI (i)))] dX3_trace_117 (by decide) rfl ?_
                        refine j_lload_n dX3_trace_119 rfl 4 rfl ?_
                        refine j_iconst (v := nI (5)) dX3_trace_120 (by decide) ?_
                        refine j_lshl dX3_trace_121 rfl ?_
                        refine j_iload dX3_trace_122 0 rfl ?_
                        refine j_i2l dX3_trace_124 rfl ?_
                        refine j_lor dX3_trace_125 rfl ?_
                        refine j_topl (y := trP R C S kq (i + 1)) (by rw [show trP R C S kq (i + 1) = ((((trP R C S kq i) <<< ((nI (5)).toInt64 &&& 63))) ||| ((nI (wht R C S i)).toInt64)) from by simp only [trP]; rw [if_pos ⟨c39, c50⟩]]) ?_
                        refine j_lstore_n [(3, .long (trP R C S kq (i + 1))), (6, .int (nI (wht R C S i))), (0, .ref (q 0)), (1, .int (nI (S))), (2, .int (nI (kq))), (5, .int (nI (i)))] dX3_trace_126 rfl (by decide) rfl ?_
                        refine j_iinc (n0 := 5) (v := nI (i + 1)) [(5, .int (nI (i + 1))), (3, .long (trP R C S kq (i + 1))), (6, .int (nI (wht R C S i))), (0, .ref (q 0)), (1, .int (nI (S))), (2, .int (nI (kq)))] dX3_trace_127 rfl (by exact nI_add (i) 1) (by decide) rfl ?_
                        refine j_goto (tgt := 22) dX3_trace_130 (by decide) ?_
                        refine j_sub [3, 4, 5, 1, 0] [(0, .ref (q 0)), (1, .int (nI (S))), (2, .int (nI (kq))), (3, .long (trP R C S kq (i + 1))), (5, .int (nI (i + 1)))] rfl ?_
                        exact ih22 (i + 1) ((wlk R C S i no0).2) (by omega) (by omega) (fun x hx => by rw [wlk_out hG (by omega) x hx]; rfl)
                      · refine j_iconst (v := nI (1)) dX3_trace_104 (by decide) ?_
                        refine j_goto (tgt := 117) dX3_trace_105 (by decide) ?_
                        refine j_topi (y := nI (wht R C S i)) (by rw [show wht R C S i = 1 from by simp [wht, c86, c101]]) ?_
                        refine j_istore [(6, .int (nI (wht R C S i))), (0, .ref (q 0)), (1, .int (nI (S))), (2, .int (nI (kq))), (3, .long (trP R C S kq i)), (5, .int (nI (i)))] dX3_trace_117 (by decide) rfl ?_
                        refine j_lload_n dX3_trace_119 rfl 4 rfl ?_
                        refine j_iconst (v := nI (5)) dX3_trace_120 (by decide) ?_
                        refine j_lshl dX3_trace_121 rfl ?_
                        refine j_iload dX3_trace_122 0 rfl ?_
                        refine j_i2l dX3_trace_124 rfl ?_
                        refine j_lor dX3_trace_125 rfl ?_
                        refine j_topl (y := trP R C S kq (i + 1)) (by rw [show trP R C S kq (i + 1) = ((((trP R C S kq i) <<< ((nI (5)).toInt64 &&& 63))) ||| ((nI (wht R C S i)).toInt64)) from by simp only [trP]; rw [if_pos ⟨c39, c50⟩]]) ?_
                        refine j_lstore_n [(3, .long (trP R C S kq (i + 1))), (6, .int (nI (wht R C S i))), (0, .ref (q 0)), (1, .int (nI (S))), (2, .int (nI (kq))), (5, .int (nI (i)))] dX3_trace_126 rfl (by decide) rfl ?_
                        refine j_iinc (n0 := 5) (v := nI (i + 1)) [(5, .int (nI (i + 1))), (3, .long (trP R C S kq (i + 1))), (6, .int (nI (wht R C S i))), (0, .ref (q 0)), (1, .int (nI (S))), (2, .int (nI (kq)))] dX3_trace_127 rfl (by exact nI_add (i) 1) (by decide) rfl ?_
                        refine j_goto (tgt := 22) dX3_trace_130 (by decide) ?_
                        refine j_sub [3, 4, 5, 1, 0] [(0, .ref (q 0)), (1, .int (nI (S))), (2, .int (nI (kq))), (3, .long (trP R C S kq (i + 1))), (5, .int (nI (i + 1)))] rfl ?_
                        exact ih22 (i + 1) (no0) (by omega) (by omega) (fun _ _ => rfl)
                    · refine j_iconst (v := nI (0)) dX3_trace_89 (by decide) ?_
                      refine j_goto (tgt := 117) dX3_trace_90 (by decide) ?_
                      refine j_topi (y := nI (wht R C S i)) (by rw [show wht R C S i = 0 from by simp [wht, c86]]) ?_
                      refine j_istore [(6, .int (nI (wht R C S i))), (0, .ref (q 0)), (1, .int (nI (S))), (2, .int (nI (kq))), (3, .long (trP R C S kq i)), (5, .int (nI (i)))] dX3_trace_117 (by decide) rfl ?_
                      refine j_lload_n dX3_trace_119 rfl 4 rfl ?_
                      refine j_iconst (v := nI (5)) dX3_trace_120 (by decide) ?_
                      refine j_lshl dX3_trace_121 rfl ?_
                      refine j_iload dX3_trace_122 0 rfl ?_
                      refine j_i2l dX3_trace_124 rfl ?_
                      refine j_lor dX3_trace_125 rfl ?_
                      refine j_topl (y := trP R C S kq (i + 1)) (by rw [show trP R C S kq (i + 1) = ((((trP R C S kq i) <<< ((nI (5)).toInt64 &&& 63))) ||| ((nI (wht R C S i)).toInt64)) from by simp only [trP]; rw [if_pos ⟨c39, c50⟩]]) ?_
                      refine j_lstore_n [(3, .long (trP R C S kq (i + 1))), (6, .int (nI (wht R C S i))), (0, .ref (q 0)), (1, .int (nI (S))), (2, .int (nI (kq))), (5, .int (nI (i)))] dX3_trace_126 rfl (by decide) rfl ?_
                      refine j_iinc (n0 := 5) (v := nI (i + 1)) [(5, .int (nI (i + 1))), (3, .long (trP R C S kq (i + 1))), (6, .int (nI (wht R C S i))), (0, .ref (q 0)), (1, .int (nI (S))), (2, .int (nI (kq)))] dX3_trace_127 rfl (by exact nI_add (i) 1) (by decide) rfl ?_
                      refine j_goto (tgt := 22) dX3_trace_130 (by decide) ?_
                      refine j_sub [3, 4, 5, 1, 0] [(0, .ref (q 0)), (1, .int (nI (S))), (2, .int (nI (kq))), (3, .long (trP R C S kq (i + 1))), (5, .int (nI (i + 1)))] rfl ?_
                      exact ih22 (i + 1) (no0) (by omega) (by omega) (fun _ _ => rfl)
                  · refine j_aload_n dX3_trace_65 rfl 0 rfl ?_
                    refine gf_X3_68 0 rfl (rfl) dX3_trace_66 ?_
                    refine j_iload dX3_trace_69 5 rfl ?_
                    refine j_iconst (v := nI (0)) dX3_trace_71 (by decide) ?_
                    refine j_st (st' := [.int (bI (false)), .int (nI (x2)), .ref (q 31)]) (by rfl) ?_
                    refine jn_zastB (wM cI cJ cZ q R C th kn me ns he nx dr nl lp cu so wi us ho nh ke ta (deg R C S) (va_up se2 x2 false)) 20 2 rfl rfl (by omega) (by omega) rfl dX3_trace_72 ?_
                    refine j_iinc (n0 := 5) (v := nI (x2 + 1)) [(6, .int (nI (x2 + 1))), (0, .ref (q 0)), (1, .int (nI (S))), (2, .int (nI (kq))), (3, .long (trP R C S kq i)), (5, .int (nI (i)))] dX3_trace_73 rfl (by exact nI_add (x2) 1) (by decide) rfl ?_
                    refine j_goto (tgt := 56) dX3_trace_76 (by decide) ?_
                    refine j_sub [1, 2, 3, 4, 5, 0] [(0, .ref (q 0)), (1, .int (nI (S))), (2, .int (nI (kq))), (3, .long (trP R C S kq i)), (5, .int (nI (i))), (6, .int (nI (x2 + 1)))] rfl ?_
                    exact ih56 (x2 + 1) (va_up se2 x2 false) (by omega) (by omega) (fun x h => if h2 : x = x2 then by rw [h2, va_up_self] else by rw [va_up_ne _ _ h2]; exact hz x (by omega)) (fun x h => by rw [va_up_ne _ _ (by omega)]; exact hoo x h)
              exact loop56 (nP R C + 2) 0 se1 (by omega) (by omega) (fun x h => absurd h (by omega)) hse1
    exact loop22 (nP R C + 2) 0 no0 (by omega) (by omega) (fun _ _ => rfl)
  · refine j_lconst (v := 1) dX3_trace_8 (by decide) ?_
    refine j_goto (tgt := 13) dX3_trace_9 (by decide) ?_
    refine j_topl (y := trP R C S kq 0) (by rw [show trP R C S kq 0 = 1 from by simp [trP, c5]]) ?_
    refine j_lstore_n [(3, .long (trP R C S kq 0)), (0, .ref (q 0)), (1, .int (nI (S))), (2, .int (nI (kq)))] dX3_trace_13 rfl (by decide) rfl ?_
    refine j_aload_n dX3_trace_14 rfl 1 rfl ?_
    refine j_iload_n dX3_trace_15 rfl 2 rfl ?_
    refine j_vW (av := [.int (nI (S))]) (c_measure l hfl D cI cJ cZ q R C hG th kn me ns he nx dr nl lp cu so wi us ho nh ke ta (deg R C S) (ilX R C S) (MJ_of hG (ilX_out hG)) (S) (by omega)) 0 rfl rfl mw2_216 mw2_218 msel15 mw1_4 mw2_219 rfl hd_X3_measure rfl ⟨rfl, rfl⟩ ⟨Nat.le_of_ble_eq_true rfl, Nat.le_of_ble_eq_true rfl⟩ ⟨Nat.zero_le _, Nat.zero_le _⟩ (Nat.le_of_ble_eq_true rfl) rfl dX3_trace_16 ?_
    rintro _ _ ⟨rfl, rfl⟩
    refine j_st (st' := []) rfl ?_
    refine j_iconst (v := nI (0)) dX3_trace_19 (by decide) ?_
    refine j_istore [(5, .int (nI (0))), (3, .long (trP R C S kq 0)), (0, .ref (q 0)), (1, .int (nI (S))), (2, .int (nI (kq)))] dX3_trace_20 (by decide) rfl ?_
    refine j_sub [2, 3, 4, 1, 0] [(0, .ref (q 0)), (1, .int (nI (S))), (2, .int (nI (kq))), (3, .long (trP R C S kq 0)), (5, .int (nI (0)))] rfl ?_
    have loop22 : ∀ (n : Nat) (i : Nat) (se1 : Nat → Bool), (nP R C < i + n) → (i ≤ nP R C) → (∀ x, nP R C ≤ x → se1 x = false) → V k l D (tys3 cI cJ cZ) ({ frames := 5, cells := 0, slots := 0, locals := 113 } : Room) cX3_trace 7 RX3 (wM cI cJ cZ q R C th kn me ns he nx dr nl lp cu so wi us ho nh ke ta (deg R C S) se1) 0 0 22 [(0, .ref (q 0)), (1, .int (nI (S))), (2, .int (nI (kq))), (3, .long (trP R C S kq i)), (5, .int (nI (i)))] [] := by
      intro n
      induction n with
      | zero => intro i se1 hm hi hse1; exfalso; omega
      | succ n ih22 =>
        intro i se1 hm hi hse1
        refine j_iload dX3_trace_22 4 rfl ?_
        refine j_aload_n dX3_trace_24 rfl 0 rfl ?_
        refine gf_X3_79 0 rfl (rfl) dX3_trace_25 ?_
        refine jn_icmp_ge (tgt := 133) (a := i) (b := nP R C) (by omega) (by omega) dX3_trace_28 (by decide) (fun c28 => ?_) (fun c28 => ?_)
        · refine j_iconst (v := nI (0)) dX3_trace_133 (by decide) ?_
          refine j_istore [(5, .int (nI (0))), (0, .ref (q 0)), (1, .int (nI (S))), (2, .int (nI (kq))), (3, .long (trP R C S kq i))] dX3_trace_134 (by decide) rfl ?_
          have hiP : i = nP R C := by omega
          refine j_lv (lv' := [(5, .int (nI (0))), (0, .ref (q 0)), (1, .int (nI (S))), (2, .int (nI (kq))), (3, .long (trC R C S kq cu 0))]) (by rw [hiP]; rfl) ?_
          refine j_sub [1, 2, 3, 4, 0] [(0, .ref (q 0)), (1, .int (nI (S))), (2, .int (nI (kq))), (3, .long (trC R C S kq cu 0)), (5, .int (nI (0)))] rfl ?_
          have loop136 : ∀ (n : Nat) (j : Nat), (R * C < j + n) → (j ≤ R * C) → V k l D (tys3 cI cJ cZ) ({ frames := 5, cells := 0, slots := 0, locals := 113 } : Room) cX3_trace 7 RX3 (wM cI cJ cZ q R C th kn me ns he nx dr nl lp cu so wi us ho nh ke ta (deg R C S) se1) 0 0 136 [(0, .ref (q 0)), (1, .int (nI (S))), (2, .int (nI (kq))), (3, .long (trC R C S kq cu j)), (5, .int (nI (j)))] [] := by
            intro n
            induction n with
            | zero => intro j hm3 hj; exfalso; omega
            | succ n ih136 =>
              intro j hm3 hj
              refine j_iload dX3_trace_136 4 rfl ?_
              refine j_aload_n dX3_trace_138 rfl 0 rfl ?_
              refine gf_X3_72 0 rfl (rfl) dX3_trace_139 ?_
              refine j_aload_n dX3_trace_142 rfl 0 rfl ?_
              refine gf_X3_76 0 rfl (rfl) dX3_trace_143 ?_
              refine jn_imul (v := R * C) dX3_trace_146 rfl ?_
              refine jn_icmp_ge (tgt := 201) (a := j) (b := R * C) (by omega) (by omega) dX3_trace_147 (by decide) (fun c147 => ?_) (fun c147 => ?_)
              · refine j_lload_n dX3_trace_201 rfl 3 rfl ?_
                exact j_lret (tys' := []) rfl hR dX3_trace_202 (⟨by rw [show j = R * C by omega]; rfl, se1, MJ_of hG hse1, rfl⟩)
              · refine j_aload_n dX3_trace_150 rfl 0 rfl ?_
                refine gf_X3_40 0 rfl (rfl) dX3_trace_151 ?_
                refine j_iload dX3_trace_154 4 rfl ?_
                refine jn_iald (v := eI (cu j)) 11 0 rfl rfl (by omega) (by omega) (rfl) dX3_trace_156 ?_
                refine je_if_lt (tgt := 195) (x := cu j) (by have := hcu j (by omega); omega) dX3_trace_157 (by decide) (fun c157 => ?_) (fun c157 => ?_)
                · refine j_lv (lv' := [(0, .ref (q 0)), (1, .int (nI (S))), (2, .int (nI (kq))), (3, .long (trC R C S kq cu (j + 1))), (5, .int (nI (j)))]) (by rw [show trC R C S kq cu (j + 1) = trC R C S kq cu j from by simp only [trC]; rw [if_neg (fun h => absurd c157 h.1)]]) ?_
                  refine j_iinc (n0 := 4) (v := nI (j + 1)) [(5, .int (nI (j + 1))), (0, .ref (q 0)), (1, .int (nI (S))), (2, .int (nI (kq))), (3, .long (trC R C S kq cu (j + 1)))] dX3_trace_195 rfl (by exact nI_add (j) 1) (by decide) rfl ?_
                  refine j_goto (tgt := 136) dX3_trace_198 (by decide) ?_
                  refine j_sub [1, 2, 3, 4, 0] [(0, .ref (q 0)), (1, .int (nI (S))), (2, .int (nI (kq))), (3, .long (trC R C S kq cu (j + 1))), (5, .int (nI (j + 1)))] rfl ?_
                  exact ih136 (j + 1) (by omega) (by omega)
                · refine j_aload_n dX3_trace_160 rfl 0 rfl ?_
                  refine gf_X3_31 0 rfl (rfl) dX3_trace_161 ?_
                  refine j_iload dX3_trace_164 4 rfl ?_
                  refine jn_iald (v := nI (mCF R C j)) 8 0 rfl rfl (by omega) (by omega) (rfl) dX3_trace_166 ?_
                  refine j_iload_n dX3_trace_167 rfl 2 rfl ?_
                  refine jn_icmp_ge (tgt := 195) (a := mCF R C j) (b := kq) (by have := (hG.cl (show j < R * C by omega)).1; omega) (by omega) dX3_trace_168 (by decide) (fun c168 => ?_) (fun c168 => ?_)
                  · refine j_lv (lv' := [(0, .ref (q 0)), (1, .int (nI (S))), (2, .int (nI (kq))), (3, .long (trC R C S kq cu (j + 1))), (5, .int (nI (j)))]) (by rw [show trC R C S kq cu (j + 1) = trC R C S kq cu j from by simp only [trC]; rw [if_neg (fun h => absurd h.2.1 (Nat.not_lt.mpr c168))]]) ?_
                    refine j_iinc (n0 := 4) (v := nI (j + 1)) [(5, .int (nI (j + 1))), (0, .ref (q 0)), (1, .int (nI (S))), (2, .int (nI (kq))), (3, .long (trC R C S kq cu (j + 1)))] dX3_trace_195 rfl (by exact nI_add (j) 1) (by decide) rfl ?_
                    refine j_goto (tgt := 136) dX3_trace_198 (by decide) ?_
                    refine j_sub [1, 2, 3, 4, 0] [(0, .ref (q 0)), (1, .int (nI (S))), (2, .int (nI (kq))), (3, .long (trC R C S kq cu (j + 1))), (5, .int (nI (j + 1)))] rfl ?_
                    exact ih136 (j + 1) (by omega) (by omega)
                  · refine j_aload_n dX3_trace_171 rfl 0 rfl ?_
                    refine gf_X3_34 0 rfl (rfl) dX3_trace_172 ?_
                    refine j_iload dX3_trace_175 4 rfl ?_
                    refine jn_iald (v := nI (mCL R C j)) 9 0 rfl rfl (by omega) (by omega) (rfl) dX3_trace_177 ?_
                    refine j_iload_n dX3_trace_178 rfl 2 rfl ?_
                    refine jn_icmp_lt (tgt := 195) (a := mCL R C j) (b := kq) (by have := (hG.cl (show j < R * C by omega)).2; omega) (by omega) dX3_trace_179 (by decide) (fun c179 => ?_) (fun c179 => ?_)
                    · refine j_lv (lv' := [(0, .ref (q 0)), (1, .int (nI (S))), (2, .int (nI (kq))), (3, .long (trC R C S kq cu (j + 1))), (5, .int (nI (j)))]) (by rw [show trC R C S kq cu (j + 1) = trC R C S kq cu j from by simp only [trC]; rw [if_neg (fun h => absurd h.2.2 (Nat.not_le.mpr c179))]]) ?_
                      refine j_iinc (n0 := 4) (v := nI (j + 1)) [(5, .int (nI (j + 1))), (0, .ref (q 0)), (1, .int (nI (S))), (2, .int (nI (kq))), (3, .long (trC R C S kq cu (j + 1)))] dX3_trace_195 rfl (by exact nI_add (j) 1) (by decide) rfl ?_
                      refine j_goto (tgt := 136) dX3_trace_198 (by decide) ?_
                      refine j_sub [1, 2, 3, 4, 0] [(0, .ref (q 0)), (1, .int (nI (S))), (2, .int (nI (kq))), (3, .long (trC R C S kq cu (j + 1))), (5, .int (nI (j + 1)))] rfl ?_
                      exact ih136 (j + 1) (by omega) (by omega)
                    · refine j_lload_n dX3_trace_182 rfl 3 rfl ?_
                      refine j_iconst (v := nI (3)) dX3_trace_183 (by decide) ?_
                      refine j_lshl dX3_trace_184 rfl ?_
                      refine j_aload_n dX3_trace_185 rfl 0 rfl ?_
                      refine j_iload_n dX3_trace_186 rfl 1 rfl ?_
                      refine j_iload dX3_trace_187 4 rfl ?_
                      refine j_vW (av := [.int (nI (S)), .int (nI (j))]) (c_sides l hfl D cI cJ cZ q R C hG th kn me ns he nx dr nl lp cu so wi us ho nh ke ta (deg R C S) se1 (S) (j) (by omega) (by omega)) 0 rfl rfl mw3_141 mw3_143 msel25 mw1_4 mw3_144 rfl hd_X3_sides rfl ⟨rfl, rfl⟩ ⟨Nat.le_of_ble_eq_true rfl, Nat.le_of_ble_eq_true rfl⟩ ⟨Nat.zero_le _, Nat.zero_le _⟩ (Nat.le_of_ble_eq_true rfl) rfl dX3_trace_189 ?_
                      rintro _ _ ⟨rfl, rfl⟩
                      refine j_st (st' := [.int (nI (sid R C S j)), .long (((trC R C S kq cu j) <<< ((nI (3)).toInt64 &&& 63)))]) rfl ?_
                      refine j_i2l dX3_trace_192 rfl ?_
                      refine j_lor dX3_trace_193 rfl ?_
                      refine j_topl (y := trC R C S kq cu (j + 1)) (by rw [show trC R C S kq cu (j + 1) = ((((trC R C S kq cu j) <<< ((nI (3)).toInt64 &&& 63))) ||| ((nI (sid R C S j)).toInt64)) from by simp only [trC]; rw [if_pos ⟨c157, c168, c179⟩]]) ?_
                      refine j_lstore_n [(3, .long (trC R C S kq cu (j + 1))), (0, .ref (q 0)), (1, .int (nI (S))), (2, .int (nI (kq))), (5, .int (nI (j)))] dX3_trace_194 rfl (by decide) rfl ?_
                      refine j_iinc (n0 := 4) (v := nI (j + 1)) [(5, .int (nI (j + 1))), (3, .long (trC R C S kq cu (j + 1))), (0, .ref (q 0)), (1, .int (nI (S))), (2, .int (nI (kq)))] dX3_trace_195 rfl (by exact nI_add (j) 1) (by decide) rfl ?_
                      refine j_goto (tgt := 136) dX3_trace_198 (by decide) ?_
                      refine j_sub [2, 3, 4, 1, 0] [(0, .ref (q 0)), (1, .int (nI (S))), (2, .int (nI (kq))), (3, .long (trC R C S kq cu (j + 1))), (5, .int (nI (j + 1)))] rfl ?_
                      exact ih136 (j + 1) (by omega) (by omega)
          exact loop136 (R * C + 2) 0 (by omega) (by omega)
        · refine j_aload_n dX3_trace_31 rfl 0 rfl ?_
          refine gf_X3_25 0 rfl (rfl) dX3_trace_32 ?_
          refine j_iload dX3_trace_35 4 rfl ?_
          refine jn_iald (v := nI (mFirst R C i)) 6 0 rfl rfl (by omega) (by omega) (rfl) dX3_trace_37 ?_
          refine j_iload_n dX3_trace_38 rfl 2 rfl ?_
          refine jn_icmp_ge (tgt := 127) (a := mFirst R C i) (b := kq) (by have := (hG.fl (show i < nP R C by omega)).1; omega) (by omega) dX3_trace_39 (by decide) (fun c39 => ?_) (fun c39 => ?_)
          · refine j_lv (lv' := [(0, .ref (q 0)), (1, .int (nI (S))), (2, .int (nI (kq))), (3, .long (trP R C S kq (i + 1))), (5, .int (nI (i)))]) (by rw [show trP R C S kq (i + 1) = trP R C S kq i from by simp only [trP]; rw [if_neg (fun h => absurd h.1 (Nat.not_lt.mpr c39))]]) ?_
            refine j_iinc (n0 := 4) (v := nI (i + 1)) [(5, .int (nI (i + 1))), (0, .ref (q 0)), (1, .int (nI (S))), (2, .int (nI (kq))), (3, .long (trP R C S kq (i + 1)))] dX3_trace_127 rfl (by exact nI_add (i) 1) (by decide) rfl ?_
            refine j_goto (tgt := 22) dX3_trace_130 (by decide) ?_
            refine j_sub [1, 2, 3, 4, 0] [(0, .ref (q 0)), (1, .int (nI (S))), (2, .int (nI (kq))), (3, .long (trP R C S kq (i + 1))), (5, .int (nI (i + 1)))] rfl ?_
            exact ih22 (i + 1) (se1) (by omega) (by omega) hse1
          · refine j_aload_n dX3_trace_42 rfl 0 rfl ?_
            refine gf_X3_28 0 rfl (rfl) dX3_trace_43 ?_
            refine j_iload dX3_trace_46 4 rfl ?_
            refine jn_iald (v := nI (mLast R C i)) 7 0 rfl rfl (by omega) (by omega) (rfl) dX3_trace_48 ?_
            refine j_iload_n dX3_trace_49 rfl 2 rfl ?_
            refine jn_icmp_lt (tgt := 127) (a := mLast R C i) (b := kq) (by have := (hG.fl (show i < nP R C by omega)).2; omega) (by omega) dX3_trace_50 (by decide) (fun c50 => ?_) (fun c50 => ?_)
            · refine j_lv (lv' := [(0, .ref (q 0)), (1, .int (nI (S))), (2, .int (nI (kq))), (3, .long (trP R C S kq (i + 1))), (5, .int (nI (i)))]) (by rw [show trP R C S kq (i + 1) = trP R C S kq i from by simp only [trP]; rw [if_neg (fun h => absurd h.2 (Nat.not_le.mpr c50))]]) ?_
              refine j_iinc (n0 := 4) (v := nI (i + 1)) [(5, .int (nI (i + 1))), (0, .ref (q 0)), (1, .int (nI (S))), (2, .int (nI (kq))), (3, .long (trP R C S kq (i + 1)))] dX3_trace_127 rfl (by exact nI_add (i) 1) (by decide) rfl ?_
              refine j_goto (tgt := 22) dX3_trace_130 (by decide) ?_
              refine j_sub [1, 2, 3, 4, 0] [(0, .ref (q 0)), (1, .int (nI (S))), (2, .int (nI (kq))), (3, .long (trP R C S kq (i + 1))), (5, .int (nI (i + 1)))] rfl ?_
              exact ih22 (i + 1) (se1) (by omega) (by omega) hse1
            · refine j_iconst (v := nI (0)) dX3_trace_53 (by decide) ?_
              refine j_istore [(6, .int (nI (0))), (0, .ref (q 0)), (1, .int (nI (S))), (2, .int (nI (kq))), (3, .long (trP R C S kq i)), (5, .int (nI (i)))] dX3_trace_54 (by decide) rfl ?_
              refine j_sub [1, 2, 3, 4, 5, 0] [(0, .ref (q 0)), (1, .int (nI (S))), (2, .int (nI (kq))), (3, .long (trP R C S kq i)), (5, .int (nI (i))), (6, .int (nI (0)))] rfl ?_
              have loop56 : ∀ (n : Nat) (x2 : Nat) (se2 : Nat → Bool), (nP R C < x2 + n) → (x2 ≤ nP R C) → (∀ x, x < x2 → se2 x = false) → (∀ x, nP R C ≤ x → se2 x = false) → V k l D (tys3 cI cJ cZ) ({ frames := 5, cells := 0, slots := 0, locals := 113 } : Room) cX3_trace 7 RX3 (wM cI cJ cZ q R C th kn me ns he nx dr nl lp cu so wi us ho nh ke ta (deg R C S) se2) 0 0 56 [(0, .ref (q 0)), (1, .int (nI (S))), (2, .int (nI (kq))), (3, .long (trP R C S kq i)), (5, .int (nI (i))), (6, .int (nI (x2)))] [] := by
                intro n
                induction n with
                | zero => intro x2 se2 hm2 hx2 hz hoo; exfalso; omega
                | succ n ih56 =>
                  intro x2 se2 hm2 hx2 hz hoo
                  refine j_iload dX3_trace_56 5 rfl ?_
                  refine j_aload_n dX3_trace_58 rfl 0 rfl ?_
                  refine gf_X3_79 0 rfl (rfl) dX3_trace_59 ?_
                  refine jn_icmp_ge (tgt := 79) (a := x2) (b := nP R C) (by omega) (by omega) dX3_trace_62 (by decide) (fun c62 => ?_) (fun c62 => ?_)
                  · have e2 : se2 = no0 := by
                      funext j
                      rcases Nat.lt_or_ge j x2 with h | h
                      · exact hz j h
                      · exact hoo j (by omega)
                    rw [e2]
                    refine j_aload_n dX3_trace_79 rfl 0 rfl ?_
                    refine gf_X3_65 0 rfl (rfl) dX3_trace_80 ?_
                    refine j_iload dX3_trace_83 4 rfl ?_
                    refine jn_iald (v := nI ((deg R C S) i)) 19 0 rfl rfl (by omega) (by omega) (rfl) dX3_trace_85 ?_
                    refine jn_if_ne (tgt := 93) (a := (deg R C S) i) (deg_lt hG) dX3_trace_86 (by decide) (fun c86 => ?_) (fun c86 => ?_)
                    · refine j_aload_n dX3_trace_93 rfl 0 rfl ?_
                      refine gf_X3_65 0 rfl (rfl) dX3_trace_94 ?_
                      refine j_iload dX3_trace_97 4 rfl ?_
                      refine jn_iald (v := nI ((deg R C S) i)) 19 0 rfl rfl (by omega) (by omega) (rfl) dX3_trace_99 ?_
                      refine j_iconst (v := nI (2)) dX3_trace_100 (by decide) ?_
                      refine jn_icmp_ne (tgt := 108) (a := (deg R C S) i) (b := 2) (deg_lt hG) (by omega) dX3_trace_101 (by decide) (fun c101 => ?_) (fun c101 => ?_)
                      · refine j_iconst (v := nI (2)) dX3_trace_108 (by decide) ?_
                        refine j_aload_n dX3_trace_109 rfl 0 rfl ?_
                        refine j_iload_n dX3_trace_110 rfl 1 rfl ?_
                        refine j_iload dX3_trace_111 4 rfl ?_
                        refine j_vW (av := [.int (nI (S)), .int (nI (i))]) (c_walk l hfl D cI cJ cZ q R C hG th kn me ns he nx dr nl lp cu so wi us ho nh ke ta (deg R C S) no0 (S) (i) (by omega) (by omega)) 0 rfl rfl mw2_239 mw3_1 msel20 mw1_4 mw3_2 rfl hd_X3_walk rfl ⟨rfl, rfl⟩ ⟨Nat.le_of_ble_eq_true rfl, Nat.le_of_ble_eq_true rfl⟩ ⟨Nat.zero_le _, Nat.zero_le _⟩ (Nat.le_of_ble_eq_true rfl) rfl dX3_trace_113 ?_
                        rintro _ _ ⟨rfl, rfl⟩
                        refine j_st (st' := [.int (nI ((wlk R C S i no0).1)), .int (nI (2))]) rfl ?_
                        refine jn_iadd (v := 2 + ((wlk R C S i no0).1)) dX3_trace_116 rfl ?_
                        refine j_topi (y := nI (wht R C S i)) (by rw [show wht R C S i = 2 + ((wlk R C S i no0).1) from by simp [wht, c86, c101]]) ?_
                        refine j_istore [(6, .int (nI (wht R C S i))), (0, .ref (q 0)), (1, .int (nI (S))), (2, .int (nI (kq))), (3, .long (trP R C S kq i)), (5, .int (nI (i)))] dX3_trace_117 (by decide) rfl ?_
                        refine j_lload_n dX3_trace_119 rfl 4 rfl ?_
                        refine j_iconst (v := nI (5)) dX3_trace_120 (by decide) ?_
                        refine j_lshl dX3_trace_121 rfl ?_
                        refine j_iload dX3_trace_122 0 rfl ?_
                        refine j_i2l dX3_trace_124 rfl ?_
                        refine j_lor dX3_trace_125 rfl ?_
                        refine j_topl (y := trP R C S kq (i + 1)) (by rw [show trP R C S kq (i + 1) = ((((trP R C S kq i) <<< ((nI (5)).toInt64 &&& 63))) ||| ((nI (wht R C S i)).toInt64)) from by simp only [trP]; rw [if_pos ⟨c39, c50⟩]]) ?_
                        refine j_lstore_n [(3, .long (trP R C S kq (i + 1))), (6, .int (nI (wht R C S i))), (0, .ref (q 0)), (1, .int (nI (S))), (2, .int (nI (kq))), (5, .int (nI (i)))] dX3_trace_126 rfl (by decide) rfl ?_
                        refine j_iinc (n0 := 5) (v := nI (i + 1)) [(5, .int (nI (i + 1))), (3, .long (trP R C S kq (i + 1))), (6, .int (nI (wht R C S i))), (0, .ref (q 0)), (1, .int (nI (S))), (2, .int (nI (kq)))] dX3_trace_127 rfl (by exact nI_add (i) 1) (by decide) rfl ?_
                        refine j_goto (tgt := 22) dX3_trace_130 (by decide) ?_
                        refine j_sub [3, 4, 5, 1, 0] [(0, .ref (q 0)), (1, .int (nI (S))), (2, .int (nI (kq))), (3, .long (trP R C S kq (i + 1))), (5, .int (nI (i + 1)))] rfl ?_
                        exact ih22 (i + 1) ((wlk R C S i no0).2) (by omega) (by omega) (fun x hx => by rw [wlk_out hG (by omega) x hx]; rfl)
                      · refine j_iconst (v := nI (1)) dX3_trace_104 (by decide) ?_
                        refine j_goto (tgt := 117) dX3_trace_105 (by decide) ?_
                        refine j_topi (y := nI (wht R C S i)) (by rw [show wht R C S i = 1 from by simp [wht, c86, c101]]) ?_
                        refine j_istore [(6, .int (nI (wht R C S i))), (0, .ref (q 0)), (1, .int (nI (S))), (2, .int (nI (kq))), (3, .long (trP R C S kq i)), (5, .int (nI (i)))] dX3_trace_117 (by decide) rfl ?_
                        refine j_lload_n dX3_trace_119 rfl 4 rfl ?_
                        refine j_iconst (v := nI (5)) dX3_trace_120 (by decide) ?_
                        refine j_lshl dX3_trace_121 rfl ?_
                        refine j_iload dX3_trace_122 0 rfl ?_
                        refine j_i2l dX3_trace_124 rfl ?_
                        refine j_lor dX3_trace_125 rfl ?_
                        refine j_topl (y := trP R C S kq (i + 1)) (by rw [show trP R C S kq (i + 1) = ((((trP R C S kq i) <<< ((nI (5)).toInt64 &&& 63))) ||| ((nI (wht R C S i)).toInt64)) from by simp only [trP]; rw [if_pos ⟨c39, c50⟩]]) ?_
                        refine j_lstore_n [(3, .long (trP R C S kq (i + 1))), (6, .int (nI (wht R C S i))), (0, .ref (q 0)), (1, .int (nI (S))), (2, .int (nI (kq))), (5, .int (nI (i)))] dX3_trace_126 rfl (by decide) rfl ?_
                        refine j_iinc (n0 := 5) (v := nI (i + 1)) [(5, .int (nI (i + 1))), (3, .long (trP R C S kq (i + 1))), (6, .int (nI (wht R C S i))), (0, .ref (q 0)), (1, .int (nI (S))), (2, .int (nI (kq)))] dX3_trace_127 rfl (by exact nI_add (i) 1) (by decide) rfl ?_
                        refine j_goto (tgt := 22) dX3_trace_130 (by decide) ?_
                        refine j_sub [3, 4, 5, 1, 0] [(0, .ref (q 0)), (1, .int (nI (S))), (2, .int (nI (kq))), (3, .long (trP R C S kq (i + 1))), (5, .int (nI (i + 1)))] rfl ?_
                        exact ih22 (i + 1) (no0) (by omega) (by omega) (fun _ _ => rfl)
                    · refine j_iconst (v := nI (0)) dX3_trace_89 (by decide) ?_
                      refine j_goto (tgt := 117) dX3_trace_90 (by decide) ?_
                      refine j_topi (y := nI (wht R C S i)) (by rw [show wht R C S i = 0 from by simp [wht, c86]]) ?_
                      refine j_istore [(6, .int (nI (wht R C S i))), (0, .ref (q 0)), (1, .int (nI (S))), (2, .int (nI (kq))), (3, .long (trP R C S kq i)), (5, .int (nI (i)))] dX3_trace_117 (by decide) rfl ?_
                      refine j_lload_n dX3_trace_119 rfl 4 rfl ?_
                      refine j_iconst (v := nI (5)) dX3_trace_120 (by decide) ?_
                      refine j_lshl dX3_trace_121 rfl ?_
                      refine j_iload dX3_trace_122 0 rfl ?_
                      refine j_i2l dX3_trace_124 rfl ?_
                      refine j_lor dX3_trace_125 rfl ?_
                      refine j_topl (y := trP R C S kq (i + 1)) (by rw [show trP R C S kq (i + 1) = ((((trP R C S kq i) <<< ((nI (5)).toInt64 &&& 63))) ||| ((nI (wht R C S i)).toInt64)) from by simp only [trP]; rw [if_pos ⟨c39, c50⟩]]) ?_
                      refine j_lstore_n [(3, .long (trP R C S kq (i + 1))), (6, .int (nI (wht R C S i))), (0, .ref (q 0)), (1, .int (nI (S))), (2, .int (nI (kq))), (5, .int (nI (i)))] dX3_trace_126 rfl (by decide) rfl ?_
                      refine j_iinc (n0 := 5) (v := nI (i + 1)) [(5, .int (nI (i + 1))), (3, .long (trP R C S kq (i + 1))), (6, .int (nI (wht R C S i))), (0, .ref (q 0)), (1, .int (nI (S))), (2, .int (nI (kq)))] dX3_trace_127 rfl (by exact nI_add (i) 1) (by decide) rfl ?_
                      refine j_goto (tgt := 22) dX3_trace_130 (by decide) ?_
                      refine j_sub [3, 4, 5, 1, 0] [(0, .ref (q 0)), (1, .int (nI (S))), (2, .int (nI (kq))), (3, .long (trP R C S kq (i + 1))), (5, .int (nI (i + 1)))] rfl ?_
                      exact ih22 (i + 1) (no0) (by omega) (by omega) (fun _ _ => rfl)
                  · refine j_aload_n dX3_trace_65 rfl 0 rfl ?_
                    refine gf_X3_68 0 rfl (rfl) dX3_trace_66 ?_
                    refine j_iload dX3_trace_69 5 rfl ?_
                    refine j_iconst (v := nI (0)) dX3_trace_71 (by decide) ?_
                    refine j_st (st' := [.int (bI (false)), .int (nI (x2)), .ref (q 31)]) (by rfl) ?_
                    refine jn_zastB (wM cI cJ cZ q R C th kn me ns he nx dr nl lp cu so wi us ho nh ke ta (deg R C S) (va_up se2 x2 false)) 20 2 rfl rfl (by omega) (by omega) rfl dX3_trace_72 ?_
                    refine j_iinc (n0 := 5) (v := nI (x2 + 1)) [(6, .int (nI (x2 + 1))), (0, .ref (q 0)), (1, .int (nI (S))), (2, .int (nI (kq))), (3, .long (trP R C S kq i)), (5, .int (nI (i)))] dX3_trace_73 rfl (by exact nI_add (x2) 1) (by decide) rfl ?_
                    refine j_goto (tgt := 56) dX3_trace_76 (by decide) ?_
                    refine j_sub [1, 2, 3, 4, 5, 0] [(0, .ref (q 0)), (1, .int (nI (S))), (2, .int (nI (kq))), (3, .long (trP R C S kq i)), (5, .int (nI (i))), (6, .int (nI (x2 + 1)))] rfl ?_
                    exact ih56 (x2 + 1) (va_up se2 x2 false) (by omega) (by omega) (fun x h => if h2 : x = x2 then by rw [h2, va_up_self] else by rw [va_up_ne _ _ h2]; exact hz x (by omega)) (fun x h => by rw [va_up_ne _ _ (by omega)]; exact hoo x h)
              exact loop56 (nP R C + 2) 0 se1 (by omega) (by omega) (fun x h => absurd h (by omega)) hse1
    exact loop22 (nP R C + 2) 0 no0 (by omega) (by omega) (fun _ _ => rfl)

/-! the table -/
set_option maxHeartbeats 4000000 in
set_option maxRecDepth 100000 in
theorem c_wipe (l : Launch) (hfl : l.flags = flags0) (D : va_G) (cI cJ cZ : ClassId) (q : Nat → Nat) (R C : Nat) (hG : GS R C) (th : Nat) (kn me : Bool) (ns he nx dr nl : Nat) (lp cu so wi us ho nh : Nat → Nat) (ke : Nat → Int64) (ta de : Nat → Nat) (se : Nat → Bool)  : Ct l yX3_wipe cX3_wipe 2 none ({ frames := 0, cells := 0, slots := 0, locals := 0 } : Room) D (tys3 cI cJ cZ) (tys3 cI cJ cZ) (wM cI cJ cZ q R C th kn me ns he nx dr nl lp cu so wi us ho nh ke ta de se) [.ref (q 0)] (fun r u => r = none ∧ ∃ ta2 : Nat → Nat, (∀ x, x < 4096 → ta2 x = 0) ∧ u = wM cI cJ cZ q R C th kn me ns he 0 dr nl lp cu so wi us ho nh ke ta2 de se) 0 0 := by
  refine Ct.of hfl (by decide) (Nat.le_of_ble_eq_true rfl) ?_
  intro k hR _
  have hR4 := hG.2.1
  have hC3 := hG.2.2.2
  have hR1 := hG.1
  have hC1 := hG.2.2.1
  have hE := hG.E
  have hRC := hG.RC
  have hE4 := hG.E4
  have hP := hG.P
  show V k l D (tys3 cI cJ cZ) ({ frames := 0, cells := 0, slots := 0, locals := 0 } : Room) cX3_wipe 2 RX3 (wM cI cJ cZ q R C th kn me ns he nx dr nl lp cu so wi us ho nh ke ta de se) 0 0 0 [(0, .ref (q 0))] []
  refine j_aload_n dX3_wipe_0 rfl 0 rfl ?_
  refine j_iconst (v := nI (0)) dX3_wipe_1 (by decide) ?_
  refine pf_X3_178 (wM cI cJ cZ q R C th kn me ns he 0 dr nl lp cu so wi us ho nh ke ta de se) 0 rfl (Nat.le_of_ble_eq_true rfl) rfl dX3_wipe_2 ?_
  refine j_iconst (v := nI (0)) dX3_wipe_5 (by decide) ?_
  refine j_istore_n [(1, .int (nI (0))), (0, .ref (q 0))] dX3_wipe_6 rfl (by decide) rfl ?_
  refine j_sub [1, 0] [(0, .ref (q 0)), (1, .int (nI (0)))] rfl ?_
  have loop7 : ∀ (n : Nat) (i : Nat) (ta1 : Nat → Nat), (4096 < i + n) → (i ≤ 4096) → (∀ x, x < i → ta1 x = 0) → V k l D (tys3 cI cJ cZ) ({ frames := 0, cells := 0, slots := 0, locals := 0 } : Room) cX3_wipe 2 RX3 (wM cI cJ cZ q R C th kn me ns he 0 dr nl lp cu so wi us ho nh ke ta1 de se) 0 0 7 [(0, .ref (q 0)), (1, .int (nI (i)))] [] := by
    intro n
    induction n with
    | zero => intro i ta1 hm hi hz; exfalso; omega
    | succ n ih7 =>
      intro i ta1 hm hi hz
      refine j_iload_n dX3_wipe_7 rfl 1 rfl ?_
      refine j_sipush (v := nI (4096)) dX3_wipe_8 (by decide) ?_
      refine jn_icmp_ge (tgt := 27) (a := i) (b := 4096) (by omega) (by omega) dX3_wipe_11 (by decide) (fun c11 => ?_) (fun c11 => ?_)
      · exact j_vret (tys' := []) rfl hR dX3_wipe_27 (⟨rfl, ta1, fun x hx => hz x (by omega), rfl⟩)
      · refine j_aload_n dX3_wipe_14 rfl 0 rfl ?_
        refine gf_X3_62 0 rfl (rfl) dX3_wipe_15 ?_
        refine j_iload_n dX3_wipe_18 rfl 1 rfl ?_
        refine j_iconst (v := nI (0)) dX3_wipe_19 (by decide) ?_
        refine jn_iastN (wM cI cJ cZ q R C th kn me ns he 0 dr nl lp cu so wi us ho nh ke (va_up ta1 i 0) de se) 18 0 rfl rfl (by omega) (by omega) rfl dX3_wipe_20 ?_
        refine j_iinc (n0 := 1) (v := nI (i + 1)) [(1, .int (nI (i + 1))), (0, .ref (q 0))] dX3_wipe_21 rfl (by exact nI_add (i) 1) (by decide) rfl ?_
        refine j_goto (tgt := 7) dX3_wipe_24 (by decide) ?_
        refine j_sub [1, 0] [(0, .ref (q 0)), (1, .int (nI (i + 1)))] rfl ?_
        exact ih7 (i + 1) (va_up ta1 i 0) (by omega) (by omega) (fun x h => if h2 : x = i then by rw [h2, va_up_self] else by rw [va_up_ne _ _ h2]; exact hz x (by omega))
  exact loop7 4098 0 ta (by omega) (by omega) (fun x h => absurd h (by omega))

set_option maxHeartbeats 4000000 in
set_option maxRecDepth 100000 in
theorem c_offer (l : Launch) (hfl : l.flags = flags0) (D : va_G) (cI cJ cZ : ClassId) (q : Nat → Nat) (R C : Nat) (hG : GS R C) (th : Nat) (kn me : Bool) (ns he nx dr nl : Nat) (lp cu so wi us ho nh : Nat → Nat) (ke : Nat → Int64) (ta de : Nat → Nat) (se : Nat → Bool) (hJ : MJ R C de se) (hcu : CU R C cu) (S kq : Nat) (hS : S < 2 ^ 31) (hk : kq < 100) (acc : List Nat) (hT : HT (acc.map (fun s => trc R C s kq cu)) nx ke ta) (hH : Hl acc nx nh) (hcap1 : acc.length ≤ 2500) (hcap2 : (offK R C cu kq acc S).length ≤ 2500) : Ct l yX3_offer cX3_offer 6 none ({ frames := 6, cells := 0, slots := 0, locals := 139 } : Room) D (tys3 cI cJ cZ) (tys3 cI cJ cZ) (wM cI cJ cZ q R C th kn me ns he nx dr nl lp cu so wi us ho nh ke ta de se) [.ref (q 0), .int (nI (S)), .int (nI (kq))] (fun r u => r = none ∧ ∃ (nx2 : Nat) (nh2 : Nat → Nat) (ke2 : Nat → Int64) (ta2 de2 : Nat → Nat) (se2 : Nat → Bool), HT ((offK R C cu kq acc S).map (fun s => trc R C s kq cu)) nx2 ke2 ta2 ∧ Hl (offK R C cu kq acc S) nx2 nh2 ∧ MJ R C de2 se2 ∧ u = wM cI cJ cZ q R C th kn me ns he nx2 dr nl lp cu so wi us ho nh2 ke2 ta2 de2 se2) 0 0 := by
  refine Ct.of hfl (by decide) (Nat.le_of_ble_eq_true rfl) ?_
  intro k hR _
  have hR4 := hG.2.1
  have hC3 := hG.2.2.2
  have hR1 := hG.1
  have hC1 := hG.2.2.1
  have hE := hG.E
  have hRC := hG.RC
  have hE4 := hG.E4
  have hP := hG.P
  have hHn0 := hH.1
  show V k l D (tys3 cI cJ cZ) ({ frames := 6, cells := 0, slots := 0, locals := 139 } : Room) cX3_offer 6 RX3 (wM cI cJ cZ q R C th kn me ns he nx dr nl lp cu so wi us ho nh ke ta de se) 0 0 0 [(0, .ref (q 0)), (1, .int (nI (S))), (2, .int (nI (kq)))] []
  refine j_aload_n dX3_offer_0 rfl 0 rfl ?_
  refine j_iload_n dX3_offer_1 rfl 1 rfl ?_
  refine j_iload_n dX3_offer_2 rfl 2 rfl ?_
  refine j_vW (av := [.int (nI (S)), .int (nI (kq))]) (c_isAlive l hfl D cI cJ cZ q R C hG th kn me ns he nx dr nl lp cu so wi us ho nh ke ta de se hJ hcu (S) (kq) (by omega) (by omega)) 0 rfl rfl mw3_165 mw3_167 msel30 mw1_4 mw3_168 rfl hd_X3_isAlive rfl ⟨rfl, rfl⟩ ⟨Nat.le_of_ble_eq_true rfl, Nat.le_of_ble_eq_true rfl⟩ ⟨Nat.zero_le _, Nat.zero_le _⟩ (Nat.le_of_ble_eq_true rfl) rfl dX3_offer_3 ?_
  rintro _ _ ⟨rfl, se5, hJ5, rfl⟩
  refine j_st (st' := [.int (bI ((alv R C S kq cu)))]) rfl ?_
  refine jb_if_ne (tgt := 10) (b := (alv R C S kq cu)) dX3_offer_6 (by decide) (fun c6 => ?_) (fun c6 => ?_)
  · refine j_aload_n dX3_offer_10 rfl 0 rfl ?_
    refine j_iload_n dX3_offer_11 rfl 1 rfl ?_
    refine j_iload_n dX3_offer_12 rfl 2 rfl ?_
    refine j_vW (av := [.int (nI (S)), .int (nI (kq))]) (c_trace l hfl D cI cJ cZ q R C hG th kn me ns he nx dr nl lp cu so wi us ho nh ke ta (deg R C S) se5 hJ5 hcu (S) (kq) (by omega) (by omega)) 0 rfl rfl mw3_173 mw3_175 msel32 mw1_4 mw3_176 rfl hd_X3_trace rfl ⟨rfl, rfl⟩ ⟨Nat.le_of_ble_eq_true rfl, Nat.le_of_ble_eq_true rfl⟩ ⟨Nat.zero_le _, Nat.zero_le _⟩ (Nat.le_of_ble_eq_true rfl) rfl dX3_offer_13 ?_
    rintro _ _ ⟨rfl, se6, hJ6, rfl⟩
    refine j_st (st' := [.long (trc R C S kq cu)]) rfl ?_
    refine j_lstore_n [(3, .long (trc R C S kq cu)), (0, .ref (q 0)), (1, .int (nI (S))), (2, .int (nI (kq)))] dX3_offer_16 rfl (by decide) rfl ?_
    refine j_lload_n dX3_offer_17 rfl 0 rfl ?_
    refine j_ldc2 mw3_177 dX3_offer_18 ?_
    refine j_lmul dX3_offer_21 rfl ?_
    refine j_bipush (v := nI (52)) dX3_offer_22 (by decide) ?_
    refine j_lushr dX3_offer_24 rfl ?_
    refine j_l2i dX3_offer_25 rfl ?_
    refine j_istore [(5, .int ((((((trc R C S kq cu) * ((-7046029254386353131 : Int64)))).toUInt64 >>> ((nI (52)).toInt64.toUInt64 &&& Int64.toUInt64 63)).toInt64).toInt32)), (3, .long (trc R C S kq cu)), (0, .ref (q 0)), (1, .int (nI (S))), (2, .int (nI (kq)))] dX3_offer_26 (by decide) rfl ?_
    obtain ⟨hh1, hh2⟩ := hI_n (trc R C S kq cu)
    have hnx := hT.1
    obtain ⟨d0, hd0, hz0⟩ := HT_free hT (by omega) _ hh1
    refine j_lv (lv' := [(5, .int (nI ((hN (trc R C S kq cu) + 0) % 4096))), (3, .long (trc R C S kq cu)), (0, .ref (q 0)), (1, .int (nI (S))), (2, .int (nI (kq)))]) (by rw [show (hN (trc R C S kq cu) + 0) % 4096 = hN (trc R C S kq cu) by omega, ← hh2]; rfl) ?_
    refine j_sub [2, 3, 4, 1, 0] [(0, .ref (q 0)), (1, .int (nI (S))), (2, .int (nI (kq))), (3, .long (trc R C S kq cu)), (5, .int (nI ((hN (trc R C S kq cu) + 0) % 4096)))] rfl ?_
    have loop28 : ∀ (n : Nat) (d : Nat), (4096 < d + n) → (d ≤ d0) → (∀ d2, d2 < d → 0 < ta ((hN (trc R C S kq cu) + d2) % 4096) ∧ ke (ta ((hN (trc R C S kq cu) + d2) % 4096) - 1) ≠ trc R C S kq cu) → V k l D (tys3 cI cJ cZ) ({ frames := 6, cells := 0, slots := 0, locals := 139 } : Room) cX3_offer 6 RX3 (wM cI cJ cZ q R C th kn me ns he nx dr nl lp cu so wi us ho nh ke ta (deg R C S) se6) 0 0 28 [(0, .ref (q 0)), (1, .int (nI (S))), (2, .int (nI (kq))), (3, .long (trc R C S kq cu)), (5, .int (nI ((hN (trc R C S kq cu) + d) % 4096)))] [] := by
      intro n
      induction n with
      | zero => intro d hm hd hno; exfalso; omega
      | succ n ih28 =>
        intro d hm hd hno
        have hp : (hN (trc R C S kq cu) + d) % 4096 < 4096 := Nat.mod_lt _ (by decide)
        have hta := hT.2.2.1 _ hp
        refine j_aload_n dX3_offer_28 rfl 0 rfl ?_
        refine gf_X3_62 0 rfl (rfl) dX3_offer_29 ?_
        refine j_iload dX3_offer_32 4 rfl ?_
        refine jn_iald (v := nI (ta ((hN (trc R C S kq cu) + d) % 4096))) 18 0 rfl rfl (by omega) (by omega) (rfl) dX3_offer_34 ?_
        refine jn_if_le (tgt := 70) (a := ta ((hN (trc R C S kq cu) + d) % 4096)) (by omega) dX3_offer_35 (by decide) (fun c35 => ?_) (fun c35 => ?_)
        · refine j_aload_n dX3_offer_70 rfl 0 rfl ?_
          refine gf_X3_62 0 rfl (rfl) dX3_offer_71 ?_
          refine j_iload dX3_offer_74 4 rfl ?_
          refine jn_iald (v := nI (ta ((hN (trc R C S kq cu) + d) % 4096))) 18 0 rfl rfl (by omega) (by omega) (rfl) dX3_offer_76 ?_
          refine jn_if_ne (tgt := 131) (a := ta ((hN (trc R C S kq cu) + d) % 4096)) (by omega) dX3_offer_77 (by decide) (fun c77 => ?_) (fun c77 => ?_)
          · have hK9 : offK R C cu kq acc S = acc := by first | (simp only [offK]; rw [if_pos c6, if_pos hyk]; done) | (exfalso; omega)
            exact j_vret (tys' := []) rfl hR dX3_offer_131 (⟨rfl, nx, nh, ke, ta, _, se6, by rw [hK9]; exact hT, by rw [hK9]; exact hH, hJ6, rfl⟩)
          · have hnk := HT_no hT c77 hno
            have hK9 : offK R C cu kq acc S = acc ++ [S] := by simp only [offK]; rw [if_pos c6, if_neg hnk]
            have hl9 : acc.length + 1 ≤ 2500 := by rw [hK9, List.length_append, List.length_singleton] at hcap2; exact hcap2
            have hHn := hH.1
            refine j_aload_n dX3_offer_80 rfl 0 rfl ?_
            refine gf_X3_178 0 rfl (rfl) dX3_offer_81 ?_
            refine j_sipush (v := nI (2500)) dX3_offer_84 (by decide) ?_
            refine jn_icmp_ge (tgt := 131) (a := nx) (b := 2500) (by omega) (by omega) dX3_offer_87 (by decide) (fun c87 => ?_) (fun c87 => ?_)
            · exfalso; omega
            · refine j_aload_n dX3_offer_90 rfl 0 rfl ?_
              refine gf_X3_58 0 rfl (rfl) dX3_offer_91 ?_
              refine j_aload_n dX3_offer_94 rfl 0 rfl ?_
              refine gf_X3_178 0 rfl (rfl) dX3_offer_95 ?_
              refine j_lload_n dX3_offer_98 rfl 3 rfl ?_
              refine jn_last (wM cI cJ cZ q R C th kn me ns he nx dr nl lp cu so wi us ho nh (va_up ke nx (trc R C S kq cu)) ta (deg R C S) se6) 17 1 rfl rfl (by omega) (by omega) rfl dX3_offer_99 ?_
              refine j_aload_n dX3_offer_100 rfl 0 rfl ?_
              refine gf_X3_55 0 rfl (rfl) dX3_offer_101 ?_
              refine j_aload_n dX3_offer_104 rfl 0 rfl ?_
              refine gf_X3_178 0 rfl (rfl) dX3_offer_105 ?_
              refine j_iload_n dX3_offer_108 rfl 1 rfl ?_
              refine jn_iastN (wM cI cJ cZ q R C th kn me ns he nx dr nl lp cu so wi us ho (va_up nh nx S) (va_up ke nx (trc R C S kq cu)) ta (deg R C S) se6) 16 0 rfl rfl (by omega) (by omega) rfl dX3_offer_109 ?_
              refine j_aload_n dX3_offer_110 rfl 0 rfl ?_
              refine j_dup dX3_offer_111 rfl ?_
              refine gf_X3_178 0 rfl (rfl) dX3_offer_112 ?_
              refine j_iconst (v := nI (1)) dX3_offer_115 (by decide) ?_
              refine jn_iadd (v := nx + 1) dX3_offer_116 rfl ?_
              refine pf_X3_178 (wM cI cJ cZ q R C th kn me ns he (nx + 1) dr nl lp cu so wi us ho (va_up nh nx S) (va_up ke nx (trc R C S kq cu)) ta (deg R C S) se6) 0 rfl (Nat.le_of_ble_eq_true rfl) rfl dX3_offer_117 ?_
              refine j_aload_n dX3_offer_120 rfl 0 rfl ?_
              refine gf_X3_62 0 rfl (rfl) dX3_offer_121 ?_
              refine j_iload dX3_offer_124 4 rfl ?_
              refine j_aload_n dX3_offer_126 rfl 0 rfl ?_
              refine gf_X3_178 0 rfl (rfl) dX3_offer_127 ?_
              refine jn_iastN (wM cI cJ cZ q R C th kn me ns he (nx + 1) dr nl lp cu so wi us ho (va_up nh nx S) (va_up ke nx (trc R C S kq cu)) (va_up ta ((hN (trc R C S kq cu) + d) % 4096) (nx + 1)) (deg R C S) se6) 18 0 rfl rfl (by omega) (by omega) rfl dX3_offer_130 ?_
              exact j_vret (tys' := []) rfl hR dX3_offer_131 (⟨rfl, nx + 1, va_up nh nx S, va_up ke nx (trc R C S kq cu), va_up ta ((hN (trc R C S kq cu) + d) % 4096) (nx + 1), _, se6, by rw [hK9, List.map_append]; exact HT_put hT (by omega) c77 (fun d2 h => (hno d2 h).1), by rw [hK9]; exact Hl_put hH, hJ6, rfl⟩)
        · refine j_aload_n dX3_offer_38 rfl 0 rfl ?_
          refine gf_X3_58 0 rfl (rfl) dX3_offer_39 ?_
          refine j_aload_n dX3_offer_42 rfl 0 rfl ?_
          refine gf_X3_62 0 rfl (rfl) dX3_offer_43 ?_
          refine j_iload dX3_offer_46 4 rfl ?_
          refine jn_iald (v := nI (ta ((hN (trc R C S kq cu) + d) % 4096))) 18 0 rfl rfl (by omega) (by omega) (rfl) dX3_offer_48 ?_
          refine j_iconst (v := nI (1)) dX3_offer_49 (by decide) ?_
          refine jn_isub dX3_offer_50 (by omega) rfl ?_
          refine jn_lald (v := ke ((ta ((hN (trc R C S kq cu) + d) % 4096)) - 1)) 17 1 rfl rfl (by omega) (by omega) (rfl) dX3_offer_51 ?_
          refine j_lload_n dX3_offer_52 rfl 3 rfl ?_
          refine j_lcmp dX3_offer_53 rfl ?_
          refine j_if_eq (tgt := 70) dX3_offer_54 (by decide) (fun c54 => ?_) (fun c54 => ?_)
          · have hyk := HT_yes hT hp c35 ((lg_cmp_eq _ _).mp c54)
            refine j_aload_n dX3_offer_70 rfl 0 rfl ?_
            refine gf_X3_62 0 rfl (rfl) dX3_offer_71 ?_
            refine j_iload dX3_offer_74 4 rfl ?_
            refine jn_iald (v := nI (ta ((hN (trc R C S kq cu) + d) % 4096))) 18 0 rfl rfl (by omega) (by omega) (rfl) dX3_offer_76 ?_
            refine jn_if_ne (tgt := 131) (a := ta ((hN (trc R C S kq cu) + d) % 4096)) (by omega) dX3_offer_77 (by decide) (fun c77 => ?_) (fun c77 => ?_)
            · have hK9 : offK R C cu kq acc S = acc := by first | (simp only [offK]; rw [if_pos c6, if_pos hyk]; done) | (exfalso; omega)
              exact j_vret (tys' := []) rfl hR dX3_offer_131 (⟨rfl, nx, nh, ke, ta, _, se6, by rw [hK9]; exact hT, by rw [hK9]; exact hH, hJ6, rfl⟩)
            · have hnk := HT_no hT c77 hno
              have hK9 : offK R C cu kq acc S = acc ++ [S] := by simp only [offK]; rw [if_pos c6, if_neg hnk]
              have hl9 : acc.length + 1 ≤ 2500 := by rw [hK9, List.length_append, List.length_singleton] at hcap2; exact hcap2
              have hHn := hH.1
              refine j_aload_n dX3_offer_80 rfl 0 rfl ?_
              refine gf_X3_178 0 rfl (rfl) dX3_offer_81 ?_
              refine j_sipush (v := nI (2500)) dX3_offer_84 (by decide) ?_
              refine jn_icmp_ge (tgt := 131) (a := nx) (b := 2500) (by omega) (by omega) dX3_offer_87 (by decide) (fun c87 => ?_) (fun c87 => ?_)
              · exfalso; omega
              · refine j_aload_n dX3_offer_90 rfl 0 rfl ?_
                refine gf_X3_58 0 rfl (rfl) dX3_offer_91 ?_
                refine j_aload_n dX3_offer_94 rfl 0 rfl ?_
                refine gf_X3_178 0 rfl (rfl) dX3_offer_95 ?_
                refine j_lload_n dX3_offer_98 rfl 3 rfl ?_
                refine jn_last (wM cI cJ cZ q R C th kn me ns he nx dr nl lp cu so wi us ho nh (va_up ke nx (trc R C S kq cu)) ta (deg R C S) se6) 17 1 rfl rfl (by omega) (by omega) rfl dX3_offer_99 ?_
                refine j_aload_n dX3_offer_100 rfl 0 rfl ?_
                refine gf_X3_55 0 rfl (rfl) dX3_offer_101 ?_
                refine j_aload_n dX3_offer_104 rfl 0 rfl ?_
                refine gf_X3_178 0 rfl (rfl) dX3_offer_105 ?_
                refine j_iload_n dX3_offer_108 rfl 1 rfl ?_
                refine jn_iastN (wM cI cJ cZ q R C th kn me ns he nx dr nl lp cu so wi us ho (va_up nh nx S) (va_up ke nx (trc R C S kq cu)) ta (deg R C S) se6) 16 0 rfl rfl (by omega) (by omega) rfl dX3_offer_109 ?_
                refine j_aload_n dX3_offer_110 rfl 0 rfl ?_
                refine j_dup dX3_offer_111 rfl ?_
                refine gf_X3_178 0 rfl (rfl) dX3_offer_112 ?_
                refine j_iconst (v := nI (1)) dX3_offer_115 (by decide) ?_
                refine jn_iadd (v := nx + 1) dX3_offer_116 rfl ?_
                refine pf_X3_178 (wM cI cJ cZ q R C th kn me ns he (nx + 1) dr nl lp cu so wi us ho (va_up nh nx S) (va_up ke nx (trc R C S kq cu)) ta (deg R C S) se6) 0 rfl (Nat.le_of_ble_eq_true rfl) rfl dX3_offer_117 ?_
                refine j_aload_n dX3_offer_120 rfl 0 rfl ?_
                refine gf_X3_62 0 rfl (rfl) dX3_offer_121 ?_
                refine j_iload dX3_offer_124 4 rfl ?_
                refine j_aload_n dX3_offer_126 rfl 0 rfl ?_
                refine gf_X3_178 0 rfl (rfl) dX3_offer_127 ?_
                refine jn_iastN (wM cI cJ cZ q R C th kn me ns he (nx + 1) dr nl lp cu so wi us ho (va_up nh nx S) (va_up ke nx (trc R C S kq cu)) (va_up ta ((hN (trc R C S kq cu) + d) % 4096) (nx + 1)) (deg R C S) se6) 18 0 rfl rfl (by omega) (by omega) rfl dX3_offer_130 ?_
                exact j_vret (tys' := []) rfl hR dX3_offer_131 (⟨rfl, nx + 1, va_up nh nx S, va_up ke nx (trc R C S kq cu), va_up ta ((hN (trc R C S kq cu) + d) % 4096) (nx + 1), _, se6, by rw [hK9, List.map_append]; exact HT_put hT (by omega) c77 (fun d2 h => (hno d2 h).1), by rw [hK9]; exact Hl_put hH, hJ6, rfl⟩)
          · refine j_iload dX3_offer_57 4 rfl ?_
            refine j_iconst (v := nI (1)) dX3_offer_59 (by decide) ?_
            refine jn_iadd (v := ((hN (trc R C S kq cu) + d) % 4096) + 1) dX3_offer_60 rfl ?_
            refine j_sipush (v := nI (4096)) dX3_offer_61 (by decide) ?_
            refine j_irem dX3_offer_64 (by decide) rfl ?_
            refine j_topi (y := nI ((hN (trc R C S kq cu) + (d + 1)) % 4096)) (by rw [pk_rem (by omega) (by decide) (by decide), show ((hN (trc R C S kq cu) + d) % 4096 + 1) % 4096 = (hN (trc R C S kq cu) + (d + 1)) % 4096 by omega]) ?_
            refine j_istore [(5, .int (nI ((hN (trc R C S kq cu) + (d + 1)) % 4096))), (0, .ref (q 0)), (1, .int (nI (S))), (2, .int (nI (kq))), (3, .long (trc R C S kq cu))] dX3_offer_65 (by decide) rfl ?_
            refine j_goto (tgt := 28) dX3_offer_67 (by decide) ?_
            refine j_sub [1, 2, 3, 4, 0] [(0, .ref (q 0)), (1, .int (nI (S))), (2, .int (nI (kq))), (3, .long (trc R C S kq cu)), (5, .int (nI ((hN (trc R C S kq cu) + (d + 1)) % 4096)))] rfl ?_
            exact ih28 (d + 1) (by omega) (by have : d ≠ d0 := (fun e => by rw [e] at c35; omega); omega) (fun d2 h => if h2 : d2 = d then by rw [h2]; exact ⟨c35, fun e => c54 ((lg_cmp_eq _ _).mpr e)⟩ else hno d2 (by omega))
    exact loop28 4098 0 (by omega) (by omega) (fun d2 h => absurd h (by omega))
  · have hK9 : offK R C cu kq acc S = acc := by simp [offK, c6]
    exact j_vret (tys' := []) rfl hR dX3_offer_9 (⟨rfl, nx, nh, ke, ta, _, se5, by rw [hK9]; exact hT, by rw [hK9]; exact hH, hJ5, rfl⟩)

set_option maxHeartbeats 4000000 in
set_option maxRecDepth 100000 in
theorem c_isUseful (l : Launch) (hfl : l.flags = flags0) (D : va_G) (cI cJ cZ : ClassId) (q : Nat → Nat) (R C : Nat) (hG : GS R C) (th : Nat) (kn me : Bool) (ns he nx dr nl : Nat) (lp cu so wi us ho nh : Nat → Nat) (ke : Nat → Int64) (ta de : Nat → Nat) (se : Nat → Bool) (SO : List Nat) (hSO : Hl SO ns so) (hn13 : ns ≤ 1300) (hs31 : ∀ j, j < ns → so j < 2 ^ 31) (hmo : ∀ i j, i ≤ j → j < ns → so i ≤ so j) (S kq : Nat) (hS : S < 2 ^ 31) (hk : kq ≤ 31) : Ct l yX3_isUseful cX3_isUseful 6 (Option.some FieldType.boolean) ({ frames := 0, cells := 0, slots := 0, locals := 0 } : Room) D (tys3 cI cJ cZ) (tys3 cI cJ cZ) (wM cI cJ cZ q R C th kn me ns he nx dr nl lp cu so wi us ho nh ke ta de se) [.ref (q 0), .int (nI (S)), .int (nI (kq))] (fun r u => r = some (.int (bI ((usf SO S kq)))) ∧ u = wM cI cJ cZ q R C th kn me ns he nx dr nl lp cu so wi us ho nh ke ta de se) 0 0 := by
  refine Ct.of hfl (by decide) (Nat.le_of_ble_eq_true rfl) ?_
  intro k hR _
  have hR4 := hG.2.1
  have hC3 := hG.2.2.2
  have hR1 := hG.1
  have hC1 := hG.2.2.1
  have hE := hG.E
  have hRC := hG.RC
  have hE4 := hG.E4
  have hP := hG.P
  show V k l D (tys3 cI cJ cZ) ({ frames := 0, cells := 0, slots := 0, locals := 0 } : Room) cX3_isUseful 6 RX3 (wM cI cJ cZ q R C th kn me ns he nx dr nl lp cu so wi us ho nh ke ta de se) 0 0 0 [(0, .ref (q 0)), (1, .int (nI (S))), (2, .int (nI (kq)))] []
  refine j_iconst (v := nI (0)) dX3_isUseful_0 (by decide) ?_
  refine j_istore_n [(3, .int (nI (0))), (0, .ref (q 0)), (1, .int (nI (S))), (2, .int (nI (kq)))] dX3_isUseful_1 rfl (by decide) rfl ?_
  refine j_aload_n dX3_isUseful_2 rfl 1 rfl ?_
  refine gf_X3_159 0 rfl (rfl) dX3_isUseful_3 ?_
  refine j_istore [(4, .int (nI (ns))), (3, .int (nI (0))), (0, .ref (q 0)), (1, .int (nI (S))), (2, .int (nI (kq)))] dX3_isUseful_6 (by decide) rfl ?_
  refine j_sub [2, 3, 4, 1, 0] [(0, .ref (q 0)), (1, .int (nI (S))), (2, .int (nI (kq))), (3, .int (nI (0))), (4, .int (nI (ns)))] rfl ?_
  have loop8 : ∀ (n : Nat) (fr to : Nat), (to - fr < n) → (fr ≤ to) → (to ≤ ns) → (∀ j, j < fr → so j / 2 ^ (31 - kq) < S / 2 ^ (31 - kq)) → (∀ j, to ≤ j → j < ns → S / 2 ^ (31 - kq) ≤ so j / 2 ^ (31 - kq)) → V k l D (tys3 cI cJ cZ) ({ frames := 0, cells := 0, slots := 0, locals := 0 } : Room) cX3_isUseful 6 RX3 (wM cI cJ cZ q R C th kn me ns he nx dr nl lp cu so wi us ho nh ke ta de se) 0 0 8 [(0, .ref (q 0)), (1, .int (nI (S))), (2, .int (nI (kq))), (3, .int (nI (fr))), (4, .int (nI (to)))] [] := by
    intro n
    induction n with
    | zero => intro fr to hm hft htn h1 h2; exfalso; omega
    | succ n ih8 =>
      intro fr to hm hft htn h1 h2
      refine j_iload_n dX3_isUseful_8 rfl 3 rfl ?_
      refine j_iload dX3_isUseful_9 4 rfl ?_
      refine jn_icmp_ge (tgt := 58) (a := fr) (b := to) (by omega) (by omega) dX3_isUseful_11 (by decide) (fun c11 => ?_) (fun c11 => ?_)
      · refine j_iload_n dX3_isUseful_58 rfl 3 rfl ?_
        refine j_aload_n dX3_isUseful_59 rfl 0 rfl ?_
        refine gf_X3_159 0 rfl (rfl) dX3_isUseful_60 ?_
        refine jn_icmp_ge (tgt := 90) (a := fr) (b := ns) (by omega) (by omega) dX3_isUseful_63 (by decide) (fun c63 => ?_) (fun c63 => ?_)
        · refine j_iconst (v := nI (0)) dX3_isUseful_90 (by decide) ?_
          refine j_st (st' := [.int (bI (false))]) (by rfl) ?_
          exact j_zretB (tys' := []) rfl hR dX3_isUseful_91 (⟨by rw [show usf SO S kq = false from Bool.eq_false_iff.mpr (fun h9 => absurd ((any_i hSO _).mp h9) (fun ⟨j, hj, hj2⟩ => by have hj3 := of_decide_eq_true hj2; have := h1 j (by omega); omega))], rfl⟩)
        · have hf31 : so fr < 2 ^ 31 := hs31 _ (by omega)
          refine j_aload_n dX3_isUseful_66 rfl 0 rfl ?_
          refine gf_X3_43 0 rfl (rfl) dX3_isUseful_67 ?_
          refine j_iload_n dX3_isUseful_70 rfl 3 rfl ?_
          refine jn_iald (v := nI (so fr)) 12 0 rfl rfl (by omega) (by omega) (rfl) dX3_isUseful_71 ?_
          refine j_bipush (v := nI (31)) dX3_isUseful_72 (by decide) ?_
          refine j_iload_n dX3_isUseful_74 rfl 2 rfl ?_
          refine jn_isub dX3_isUseful_75 (by omega) rfl ?_
          refine j_ishr dX3_isUseful_76 rfl ?_
          refine j_topi (y := nI (so fr / 2 ^ (31 - kq))) (by rw [nb_shr (by omega) (by omega)]) ?_
          refine j_iload_n dX3_isUseful_77 rfl 1 rfl ?_
          refine j_bipush (v := nI (31)) dX3_isUseful_78 (by decide) ?_
          refine j_iload_n dX3_isUseful_80 rfl 2 rfl ?_
          refine jn_isub dX3_isUseful_81 (by omega) rfl ?_
          refine j_ishr dX3_isUseful_82 rfl ?_
          refine j_topi (y := nI (S / 2 ^ (31 - kq))) (by rw [nb_shr (by omega) (by omega)]) ?_
          refine jn_icmp_ne (tgt := 90) (a := so fr / 2 ^ (31 - kq)) (b := S / 2 ^ (31 - kq)) (by have := Nat.div_le_self (so fr) (2 ^ (31 - kq)); omega) (by have := Nat.div_le_self (S) (2 ^ (31 - kq)); omega) dX3_isUseful_83 (by decide) (fun c83 => ?_) (fun c83 => ?_)
          · refine j_iconst (v := nI (0)) dX3_isUseful_90 (by decide) ?_
            refine j_st (st' := [.int (bI (false))]) (by rfl) ?_
            exact j_zretB (tys' := []) rfl hR dX3_isUseful_91 (⟨by rw [show usf SO S kq = false from Bool.eq_false_iff.mpr (fun h9 => absurd ((any_i hSO _).mp h9) (fun ⟨j, hj, hj2⟩ => (Nat.lt_or_ge j fr).elim (fun q9 => by have hj3 := of_decide_eq_true hj2; have := h1 j q9; omega) (fun q9 => by have hj3 := of_decide_eq_true hj2; have := h2 fr (by omega) c63; have := Nat.div_le_div_right (c := 2 ^ (31 - kq)) (hmo fr j q9 hj); omega)))], rfl⟩)
          · refine j_iconst (v := nI (1)) dX3_isUseful_86 (by decide) ?_
            refine j_goto (tgt := 91) dX3_isUseful_87 (by decide) ?_
            refine j_st (st' := [.int (bI (true))]) (by rfl) ?_
            exact j_zretB (tys' := []) rfl hR dX3_isUseful_91 (⟨by rw [show usf SO S kq = true from (any_i hSO _).mpr ⟨fr, c63, decide_eq_true c83⟩], rfl⟩)
      · have hm31 : so ((fr + to) / 2) < 2 ^ 31 := hs31 _ (by omega)
        refine j_iload_n dX3_isUseful_14 rfl 3 rfl ?_
        refine j_iload dX3_isUseful_15 4 rfl ?_
        refine jn_iadd (v := fr + to) dX3_isUseful_17 rfl ?_
        refine j_iconst (v := nI (2)) dX3_isUseful_18 (by decide) ?_
        refine j_idiv dX3_isUseful_19 (by decide) rfl ?_
        refine j_topi (y := nI ((fr + to) / 2)) (pk_div (by omega) (by decide) (by decide)) ?_
        refine j_istore [(5, .int (nI ((fr + to) / 2))), (0, .ref (q 0)), (1, .int (nI (S))), (2, .int (nI (kq))), (3, .int (nI (fr))), (4, .int (nI (to)))] dX3_isUseful_20 (by decide) rfl ?_
        refine j_aload_n dX3_isUseful_22 rfl 1 rfl ?_
        refine gf_X3_43 0 rfl (rfl) dX3_isUseful_23 ?_
        refine j_iload dX3_isUseful_26 0 rfl ?_
        refine jn_iald (v := nI (so ((fr + to) / 2))) 12 0 rfl rfl (by omega) (by omega) (rfl) dX3_isUseful_28 ?_
        refine j_bipush (v := nI (31)) dX3_isUseful_29 (by decide) ?_
        refine j_iload_n dX3_isUseful_31 rfl 3 rfl ?_
        refine jn_isub dX3_isUseful_32 (by omega) rfl ?_
        refine j_ishr dX3_isUseful_33 rfl ?_
        refine j_topi (y := nI (so ((fr + to) / 2) / 2 ^ (31 - kq))) (by rw [nb_shr (by omega) (by omega)]) ?_
        refine j_iload_n dX3_isUseful_34 rfl 2 rfl ?_
        refine j_bipush (v := nI (31)) dX3_isUseful_35 (by decide) ?_
        refine j_iload_n dX3_isUseful_37 rfl 3 rfl ?_
        refine jn_isub dX3_isUseful_38 (by omega) rfl ?_
        refine j_ishr dX3_isUseful_39 rfl ?_
        refine j_topi (y := nI (S / 2 ^ (31 - kq))) (by rw [nb_shr (by omega) (by omega)]) ?_
        refine jn_icmp_ge (tgt := 51) (a := so ((fr + to) / 2) / 2 ^ (31 - kq)) (b := S / 2 ^ (31 - kq)) (by have := Nat.div_le_self (so ((fr + to) / 2)) (2 ^ (31 - kq)); omega) (by have := Nat.div_le_self (S) (2 ^ (31 - kq)); omega) dX3_isUseful_40 (by decide) (fun c40 => ?_) (fun c40 => ?_)
        · refine j_iload dX3_isUseful_51 0 rfl ?_
          refine j_istore [(4, .int (nI ((fr + to) / 2))), (5, .int (nI ((fr + to) / 2))), (0, .ref (q 0)), (1, .int (nI (S))), (2, .int (nI (kq))), (3, .int (nI (fr)))] dX3_isUseful_53 (by decide) rfl ?_
          refine j_goto (tgt := 8) dX3_isUseful_55 (by decide) ?_
          refine j_sub [2, 3, 4, 5, 0] [(0, .ref (q 0)), (1, .int (nI (S))), (2, .int (nI (kq))), (3, .int (nI (fr))), (4, .int (nI ((fr + to) / 2)))] rfl ?_
          exact ih8 fr ((fr + to) / 2) (by omega) (by omega) (by omega) h1 (fun j hj hj2 => Nat.le_trans c40 (Nat.div_le_div_right (hmo ((fr + to) / 2) j (by omega) hj2)))
        · refine j_iload dX3_isUseful_43 0 rfl ?_
          refine j_iconst (v := nI (1)) dX3_isUseful_45 (by decide) ?_
          refine jn_iadd (v := ((fr + to) / 2) + 1) dX3_isUseful_46 rfl ?_
          refine j_istore_n [(3, .int (nI (((fr + to) / 2) + 1))), (5, .int (nI ((fr + to) / 2))), (0, .ref (q 0)), (1, .int (nI (S))), (2, .int (nI (kq))), (4, .int (nI (to)))] dX3_isUseful_47 rfl (by decide) rfl ?_
          refine j_goto (tgt := 55) dX3_isUseful_48 (by decide) ?_
          refine j_goto (tgt := 8) dX3_isUseful_55 (by decide) ?_
          refine j_sub [2, 3, 4, 0, 5] [(0, .ref (q 0)), (1, .int (nI (S))), (2, .int (nI (kq))), (3, .int (nI (((fr + to) / 2) + 1))), (4, .int (nI (to)))] rfl ?_
          exact ih8 ((fr + to) / 2 + 1) to (by omega) (by omega) (by omega) (fun j hj => Nat.lt_of_le_of_lt (Nat.div_le_div_right (hmo j ((fr + to) / 2) (by omega) (by omega))) c40) h2
  exact loop8 (ns + 1) 0 ns (by omega) (by omega) (by omega) (fun j h => absurd h (by omega)) (fun j h h2 => absurd h2 (by omega))

