/-! the tree of the beginnings without clues, node by node -/
def opF (TF TT k i : Nat) : Bool := Nat.blt (t5 TF i) k && Nat.ble k (t5 TT i)
def prF (R C k j : Nat) : Nat := bif Nat.blt k (R * (2 * C + 1)) then k / (2 * C + 1) + (bif Nat.blt (bif Nat.beq j C then 2 * C else 2 * j + 1) (k % (2 * C + 1)) then 1 else 0) else R
def dgF (R C k j x : Nat) : Nat := bif Nat.beq x j then 0 else bif Nat.beq x 7 then 1 else 2 + (prF R C k x * (C + 1) + x)
def enF (R C TF TT k p : Nat) : Nat → Nat
  | 0 => sl p 7
  | i + 1 => bif opF TF TT k i then enF R C TF TT k p i * 32 + dgF R C k (i % (C + 1)) (sl p (i % (C + 1))) else enF R C TF TT k p i
def gdF (C j w : Nat) : Nat := bif Nat.beq w 0 then j else bif Nat.beq w 1 then 7 else (w - 2) % (C + 1)
def deF (C TF TT k : Nat) : Nat → Nat → Nat → Nat
  | 0, T, p => pt p 7 T
  | i + 1, T, p => bif opF TF TT k i then deF C TF TT k i (T / 32) (pt p (i % (C + 1)) (gdF C (i % (C + 1)) (T % 32))) else deF C TF TT k i T p
def ndF (R C TB TL TH TF TT E P k d p D : Nat) : Bool :=
  alF TB TL TH TT E P k d D && (Nat.beq (trF TB TL TH TF TT P k d D P) (enF R C TF TT k p P) && Nat.beq (deF C TF TT k P (enF R C TF TT k p P) 1672) p)
def clF (D X : Nat) : Nat → Bool | 0 => true | i + 1 => clF D X i && (!(bt X i) || Nat.beq (dF D i) 2)
def ceF (TL TH d X : Nat) : Nat → Bool | 0 => true | i + 1 => ceF TL TH d X i && (!(bt d i) || (bt X (t5 TL i) == bt X (t5 TH i)))
def rnF (TL TH P k d D u X : Nat) : Bool := !(Nat.beq u 99) && (bt X u && (clF D X P && (ceF TL TH d X k && !(Nat.beq (unF D X P 0) 99))))
/-- a beginning that stays dead -/
def ddF (TB TL TH TT P k d D : Nat) : Bool := !(thF D P) || (!(laF TT D k P) || rnF TL TH P k d D (unF D (paF TB TL TH d D P).2 P 0) (wlF TB TL TH d (unF D (paF TB TL TH d D P).2 P 0) 0).2)
def xnF (TB TL TH TT E P n k d D : Nat) : Bool := bif Nat.beq n 0 then !(alF TB TL TH TT E P k d D) else ddF TB TL TH TT P k d D
/-- the cells inside, and their border -/
def cmF (C TE d : Nat) : Nat → Nat
  | 0 => 0
  | i + 1 => bif Bool.xor (bt d (t5 TE i)) (bif Nat.beq (i % C) 0 then false else bt (cmF C TE d i) (i - 1)) then cmF C TE d i + 2 ^ i else cmF C TE d i
def bqF (TO TX d m : Nat) : Nat → Bool | 0 => true | i + 1 => bqF TO TX d m i && (bt d i == Bool.xor (bt m (t5 TO i)) (bt m (t5 TX i)))
def lfF (R C TE TO TX E d : Nat) : Bool := Nat.blt 0 (cmF C TE d (R * C)) && (Nat.blt (cmF C TE d (R * C)) (2 ^ (R * C)) && bqF TO TX d (cmF C TE d (R * C)) E)
section T
variable (R C TB TL TH TF TT TE TO TX E P : Nat)
def chF : Nat → Nat → Nat → Nat → Nat → Bool
  | 0, k, d, p, D => ndF R C TB TL TH TF TT E P k d p D && lfF R C TE TO TX E d
  | n + 1, k, d, p, D => ndF R C TB TL TH TF TT E P k d p D &&
    ((match pointsF R C p k false with | some q => chF n (k + 1) d q D | none => xnF TB TL TH TT E P n (k + 1) d D) &&
     (match pointsF R C p k true with | some q => chF n (k + 1) (d + 2 ^ k) q (D + 8 ^ t5 TL k + 8 ^ t5 TH k) | none => xnF TB TL TH TT E P n (k + 1) (d + 2 ^ k) (D + 8 ^ t5 TL k + 8 ^ t5 TH k)))
/-- only the beginnings that x leads to, for the first L edges -/
def chB : Nat → Nat → Nat → Nat → Nat → Nat → Nat → Bool
  | 0, n, k, d, p, D, _ => chF R C TB TL TH TF TT TE TO TX E P n k d p D
  | _ + 1, 0, _, _, _, _, _ => false
  | L + 1, n + 1, k, d, p, D, x => ndF R C TB TL TH TF TT E P k d p D &&
    (bif bt x k then (match pointsF R C p k true with | some q => chB L n (k + 1) (d + 2 ^ k) q (D + 8 ^ t5 TL k + 8 ^ t5 TH k) x | none => xnF TB TL TH TT E P n (k + 1) (d + 2 ^ k) (D + 8 ^ t5 TL k + 8 ^ t5 TH k))
     else (match pointsF R C p k false with | some q => chB L n (k + 1) d q D x | none => xnF TB TL TH TT E P n (k + 1) d D))
def chR (L : Nat) : Nat → Nat → Bool
  | 0, _ => true
  | m + 1, a => chB R C TB TL TH TF TT TE TO TX E P L E 0 0 1672 0 a && chR L m (a + 1)
end T
theorem chR_all {R C TB TL TH TF TT TE TO TX E P L : Nat} : ∀ {m a : Nat}, chR R C TB TL TH TF TT TE TO TX E P L m a = true → ∀ x, a ≤ x → x < a + m → chB R C TB TL TH TF TT TE TO TX E P L E 0 0 1672 0 x = true
  | 0, a, _, x, h1, h2 => absurd h2 (by omega)
  | m + 1, a, h, x, h1, h2 => by
    simp only [chR, Bool.and_eq_true] at h
    rcases Nat.eq_or_lt_of_le h1 with q | q
    · rw [← q]; exact h.1
    · exact chR_all h.2 x q (by omega)
