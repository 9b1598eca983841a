/-! What is known of a number, as a value; the class's Known objects all at once (ew), and what each method of Known does to them. -/
abbrev KV : Type := Int32 × Int32 × Int32 × Int64 × Int64 × Int64 × Int64 × Int32
def kf (k : KV) : List Value := [.int k.1, .int k.2.1, .int k.2.2.1, .long k.2.2.2.1, .long k.2.2.2.2.1, .long k.2.2.2.2.2.1, .long k.2.2.2.2.2.2.1, .int k.2.2.2.2.2.2.2]
def ew (w : xw) (P : Nat → Bool) (kc : Nat → KV) : xw := fun a => if P a = true then some (.inr (2, kf (kc a))) else w a
theorem va_up_up {α : Type} (f : Nat → α) (a : Nat) (x y : α) : va_up (va_up f a x) a y = va_up f a y := by
  funext b
  by_cases h : b = a
  · rw [h, va_up_self, va_up_self]
  · rw [va_up_ne _ _ h, va_up_ne _ _ h, va_up_ne _ _ h]
theorem va_up_id {α : Type} (f : Nat → α) (a : Nat) : va_up f a (f a) = f := by
  funext b
  by_cases h : b = a
  · rw [h, va_up_self]
  · rw [va_up_ne _ _ h]
theorem ew_in {w : xw} {P : Nat → Bool} {kc : Nat → KV} {a : Nat} (h : P a = true) : ew w P kc a = some (.inr (2, kf (kc a))) := by unfold ew; rw [if_pos h]
theorem ew_out {w : xw} {P : Nat → Bool} {kc : Nat → KV} {a : Nat} (h : P a = false) : ew w P kc a = w a := by unfold ew; rw [if_neg (by rw [h]; decide)]
theorem ew_up {w : xw} {P : Nat → Bool} {kc : Nat → KV} {a : Nat} {k : KV} (h : P a = true) : va_up (ew w P kc) a (some (.inr (2, kf k))) = ew w P (va_up kc a k) := by
  funext b
  by_cases hb : b = a
  · rw [hb, va_up_self, ew_in h, va_up_self]
  · rw [va_up_ne _ _ hb]
    cases hp : P b
    · rw [ew_out hp, ew_out hp]
    · rw [ew_in hp, ew_in hp, va_up_ne _ _ hb]
section EW
variable {w : xw} {P : Nat → Bool} {kc : Nat → KV} {a : Nat}
theorem ek_r0 (h : P a = true) : xfI (ew w P kc) a 2 0 = some (kc a).1 := by unfold xfI; rw [ew_in h]; rfl
theorem ek_r1 (h : P a = true) : xfI (ew w P kc) a 2 1 = some (kc a).2.1 := by unfold xfI; rw [ew_in h]; rfl
theorem ek_r2 (h : P a = true) : xfI (ew w P kc) a 2 2 = some (kc a).2.2.1 := by unfold xfI; rw [ew_in h]; rfl
theorem ek_r3 (h : P a = true) : xfL (ew w P kc) a 2 3 = some (kc a).2.2.2.1 := by unfold xfL; rw [ew_in h]; rfl
theorem ek_r4 (h : P a = true) : xfL (ew w P kc) a 2 4 = some (kc a).2.2.2.2.1 := by unfold xfL; rw [ew_in h]; rfl
theorem ek_r5 (h : P a = true) : xfL (ew w P kc) a 2 5 = some (kc a).2.2.2.2.2.1 := by unfold xfL; rw [ew_in h]; rfl
theorem ek_r6 (h : P a = true) : xfL (ew w P kc) a 2 6 = some (kc a).2.2.2.2.2.2.1 := by unfold xfL; rw [ew_in h]; rfl
theorem ek_r7 (h : P a = true) : xfI (ew w P kc) a 2 7 = some (kc a).2.2.2.2.2.2.2 := by unfold xfI; rw [ew_in h]; rfl
theorem ek_ck (h : P a = true) : xck (ew w P kc) a 2 = some () := by unfold xck; rw [ew_in h]; rfl
theorem ek_p {k : Nat} {v : Value} {k' : KV} (h : P a = true) (hk : k < 8) (he : (kf (kc a)).set k v = kf k') : xpV (ew w P kc) a 2 k v = some (ew w P (va_up kc a k')) := by
  unfold xpV
  rw [ew_in h]
  show (if (2 : Nat) = 2 ∧ k < (kf (kc a)).length then some (va_up (ew w P kc) a (some (.inr (2, (kf (kc a)).set k v)))) else none) = _
  rw [if_pos ⟨rfl, hk⟩, he, ew_up h]
theorem ek_w0 {x : Int32} (h : P a = true) (hx : x = 0 ∨ x = 1) : xpZ (ew w P kc) a 2 0 x = some (ew w P (va_up kc a (x, (kc a).2))) := by
  unfold xpZ; rw [if_pos hx]; exact ek_p h (by decide) rfl
theorem ek_w1 {x : Int32} (h : P a = true) : xpI (ew w P kc) a 2 1 x = some (ew w P (va_up kc a ((kc a).1, x, (kc a).2.2))) := ek_p h (by decide) rfl
theorem ek_w2 {x : Int32} (h : P a = true) : xpI (ew w P kc) a 2 2 x = some (ew w P (va_up kc a ((kc a).1, (kc a).2.1, x, (kc a).2.2.2))) := ek_p h (by decide) rfl
theorem ek_w3 {x : Int64} (h : P a = true) : xpL (ew w P kc) a 2 3 x = some (ew w P (va_up kc a ((kc a).1, (kc a).2.1, (kc a).2.2.1, x, (kc a).2.2.2.2))) := ek_p h (by decide) rfl
theorem ek_w4 {x : Int64} (h : P a = true) : xpL (ew w P kc) a 2 4 x = some (ew w P (va_up kc a ((kc a).1, (kc a).2.1, (kc a).2.2.1, (kc a).2.2.2.1, x, (kc a).2.2.2.2.2))) := ek_p h (by decide) rfl
theorem ek_w5 {x : Int64} (h : P a = true) : xpL (ew w P kc) a 2 5 x = some (ew w P (va_up kc a ((kc a).1, (kc a).2.1, (kc a).2.2.1, (kc a).2.2.2.1, (kc a).2.2.2.2.1, x, (kc a).2.2.2.2.2.2))) := ek_p h (by decide) rfl
theorem ek_w6 {x : Int64} (h : P a = true) : xpL (ew w P kc) a 2 6 x = some (ew w P (va_up kc a ((kc a).1, (kc a).2.1, (kc a).2.2.1, (kc a).2.2.2.1, (kc a).2.2.2.2.1, (kc a).2.2.2.2.2.1, x, (kc a).2.2.2.2.2.2.2))) := ek_p h (by decide) rfl
theorem ek_w7 {x : Int32} (h : P a = true) : xpI (ew w P kc) a 2 7 x = some (ew w P (va_up kc a ((kc a).1, (kc a).2.1, (kc a).2.2.1, (kc a).2.2.2.1, (kc a).2.2.2.2.1, (kc a).2.2.2.2.2.1, (kc a).2.2.2.2.2.2.1, x))) := ek_p h (by decide) rfl
end EW
abbrev un (x : Int32) : Int64 := x.toInt64 &&& (4294967295 : Int64)
theorem un_eq (x : Int32) : f_G_unsigned x = some (un x) := rfl
def kNothing : KV := (1, 0, 0, 0, 4294967295, -2147483648, 2147483647, 0)
section EK
variable {w : xw} {P : Nat → Bool} {kc : Nat → KV} {a b : Nat}
theorem ek_nothing (h : P a = true) : f_K_becomeNothing (ew w P kc) a = some ((), ew w P (va_up kc a kNothing)) := by
  unfold f_K_becomeNothing
  simp only [ek_w0 h (Or.inr rfl), ek_w1 h, ek_w2 h, ek_w3 h, ek_w4 h, ek_w5 h, ek_w6 h, ek_w7 h, Option.bind_some, va_up_self, va_up_up]
  rfl
theorem ek_bu {x y : Int64} (h : P a = true) : f_K_boundUnsigned (ew w P kc) a x y = some ((), ew w P (va_up kc a ((kc a).1, (kc a).2.1, (kc a).2.2.1, x, y, (kc a).2.2.2.2.2))) := by
  unfold f_K_boundUnsigned
  simp only [ek_w3 h, ek_w4 h, Option.bind_some, va_up_self, va_up_up]
theorem ek_bs {x y : Int64} (h : P a = true) : f_K_boundSigned (ew w P kc) a x y = some ((), ew w P (va_up kc a ((kc a).1, (kc a).2.1, (kc a).2.2.1, (kc a).2.2.2.1, (kc a).2.2.2.2.1, x, y, (kc a).2.2.2.2.2.2.2))) := by
  unfold f_K_boundSigned
  simp only [ek_w5 h, ek_w6 h, Option.bind_some, va_up_self, va_up_up]
def kNumber (n : Int32) : KV := (1, -1, n, un n, un n, n.toInt64, n.toInt64, 0)
theorem ek_number {n : Int32} (h : P a = true) : f_K_becomeNumber (ew w P kc) a n = some ((), ew w P (va_up kc a (kNumber n))) := by
  unfold f_K_becomeNumber
  simp only [ek_ck h, ek_nothing h, ek_w1 h, ek_w2 h, un_eq, ek_bu h, ek_bs h, Option.bind_some, va_up_self, va_up_up]
  rfl
theorem ek_exact (h : P a = true) : f_K_isExact (ew w P kc) a = some (if (kc a).2.2.2.1 = (kc a).2.2.2.2.1 then 1 else 0, ew w P kc) := by
  unfold f_K_isExact f_K_isExact_b17
  simp only [ek_r3 h, ek_r4 h, Option.bind_some]
  by_cases e : (kc a).2.2.2.1 = (kc a).2.2.2.2.1
  · rw [if_neg (fun q => q e), if_pos e]; rfl
  · rw [if_pos e, if_neg e]; rfl
theorem ek_zeros (h : P a = true) : f_K_zeros (ew w P kc) a = some ((kc a).2.1 &&& ((kc a).2.2.1 ^^^ (-1 : Int32)), ew w P kc) := by
  unfold f_K_zeros
  simp only [ek_r1 h, ek_r2 h, Option.bind_some]
theorem ek_contra {x y : Int32} (h : P a = true) : f_K_contradicts (ew w P kc) a x y = some (if (((kc a).2.1 &&& x) &&& ((kc a).2.2.1 ^^^ y)) = 0 then 0 else 1, ew w P kc) := by
  unfold f_K_contradicts f_K_contradicts_b21
  simp only [ek_r1 h, ek_r2 h, Option.bind_some]
  by_cases e : (((kc a).2.1 &&& x) &&& ((kc a).2.2.1 ^^^ y)) = 0
  · rw [if_pos e, if_pos e]; rfl
  · rw [if_neg e, if_neg e]; rfl
theorem ek_take (ha : P a = true) (hb : P b = true) (hs : (kc b).1 = 0 ∨ (kc b).1 = 1) : f_K_take (ew w P kc) a b = some ((), ew w P (va_up kc a (kc b))) := by
  unfold f_K_take
  by_cases e : b = a
  · subst e
    simp only [ek_r0 ha, ek_w0 ha hs, ek_r1 ha, ek_w1 ha, ek_r2 ha, ek_w2 ha, ek_r3 ha, ek_r4 ha, ek_r5 ha, ek_r6 ha, ek_r7 ha, ek_w7 ha, ek_ck ha, ek_bu ha, ek_bs ha, Option.bind_some, va_up_self, va_up_up]
  · simp only [ek_r0 hb, ek_w0 ha hs, ek_r1 hb, ek_w1 ha, ek_r2 hb, ek_w2 ha, ek_r3 hb, ek_r4 hb, ek_r5 hb, ek_r6 hb, ek_r7 hb, ek_w7 ha, ek_ck ha, ek_bu ha, ek_bs ha, Option.bind_some, va_up_self, va_up_up, va_up_ne _ _ e]
def kMeet (k j : KV) : KV :=
  (k.1, (k.2.1 &&& j.2.1) &&& ((k.2.2.1 ^^^ j.2.2.1) ^^^ (-1 : Int32)), k.2.2.1 &&& ((k.2.1 &&& j.2.1) &&& ((k.2.2.1 ^^^ j.2.2.1) ^^^ (-1 : Int32))),
   if j.2.2.2.1 < k.2.2.2.1 then j.2.2.2.1 else k.2.2.2.1, if j.2.2.2.2.1 < k.2.2.2.2.1 then k.2.2.2.2.1 else j.2.2.2.2.1,
   if j.2.2.2.2.2.1 < k.2.2.2.2.2.1 then j.2.2.2.2.2.1 else k.2.2.2.2.2.1, if j.2.2.2.2.2.2.1 < k.2.2.2.2.2.2.1 then k.2.2.2.2.2.2.1 else j.2.2.2.2.2.2.1,
   if j.2.2.2.2.2.2.2 < k.2.2.2.2.2.2.2 then j.2.2.2.2.2.2.2 else k.2.2.2.2.2.2.2)
theorem ek_meet (ha : P a = true) (hb : P b = true) (e : b ≠ a) : f_K_meet (ew w P kc) a b = some ((), ew w P (va_up kc a (kMeet (kc a) (kc b)))) := by
  unfold f_K_meet
  simp only [ek_r1 ha, ek_r1 hb, ek_r2 ha, ek_r2 hb, ek_w1 ha, ek_w2 ha, ek_r3 ha, ek_r3 hb, ek_r4 ha, ek_r4 hb, ek_r5 ha, ek_r5 hb, ek_r6 ha, ek_r6 hb, ek_r7 ha, ek_r7 hb, ek_w7 ha, ek_ck ha, ek_bu ha, ek_bs ha, Option.bind_some, va_up_self, va_up_up, va_up_ne _ _ e]
  rfl
def kJoin (k j : KV) : KV :=
  (k.1, k.2.1 ||| j.2.1, k.2.2.1 ||| j.2.2.1,
   if j.2.2.2.1 < k.2.2.2.1 then k.2.2.2.1 else j.2.2.2.1, if j.2.2.2.2.1 < k.2.2.2.2.1 then j.2.2.2.2.1 else k.2.2.2.2.1,
   if j.2.2.2.2.2.1 < k.2.2.2.2.2.1 then k.2.2.2.2.2.1 else j.2.2.2.2.2.1, if j.2.2.2.2.2.2.1 < k.2.2.2.2.2.2.1 then j.2.2.2.2.2.2.1 else k.2.2.2.2.2.2.1,
   if k.2.2.2.2.2.2.2 < j.2.2.2.2.2.2.2 then j.2.2.2.2.2.2.2 else k.2.2.2.2.2.2.2)
theorem ek_join (ha : P a = true) (hb : P b = true) (e : b ≠ a) : f_K_join (ew w P kc) a b = some (if (((kc a).2.1 &&& (kc b).2.1) &&& ((kc a).2.2.1 ^^^ (kc b).2.2.1)) = 0 then (1, ew w P (va_up kc a (kJoin (kc a) (kc b)))) else (0, ew w P kc)) := by
  unfold f_K_join
  simp only [ek_r1 hb, ek_r2 hb, ek_ck ha, ek_contra ha, Option.bind_some]
  by_cases q : (((kc a).2.1 &&& (kc b).2.1) &&& ((kc a).2.2.1 ^^^ (kc b).2.2.1)) = 0
  · simp only [if_pos q, ek_r1 ha, ek_r1 hb, ek_r2 ha, ek_r2 hb, ek_w1 ha, ek_w2 ha, ek_r3 ha, ek_r3 hb, ek_r4 ha, ek_r4 hb, ek_r5 ha, ek_r5 hb, ek_r6 ha, ek_r6 hb, ek_r7 ha, ek_r7 hb, ek_w7 ha, ek_ck ha, ek_bu ha, ek_bs ha, Option.bind_some, va_up_self, va_up_up, va_up_ne _ _ e]
    rfl
  · simp only [if_neg q]
    rfl
end EK
