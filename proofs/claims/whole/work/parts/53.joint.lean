/-! Both objects side by side: the class's lies at g, the reference's behind it. -/
section JT
variable {w w' : xw} {g b a : Nat} {ct : Int32} {ii : Nat → IV} {ln : Int32} {bt wt : Nat → Int32} {en st : Int32} {mr ms : Nat → Int32} {mi : Int32} {kc : Nat → KV} {th ct2 : Int32} {po pa pb pn pf : Nat → Int32} {ln2 : Int32} {bt2 : Nat → Int32} {kk : Nat → KV} {pl st2 en2 wg : Int32} {ws : Nat → Int32} {rc : Int32} {rg sk : Nat → Int32}
theorem rb_w (h : b ≤ a ∧ a < b + 18) : rb w b th ct2 po pa pb pn pf ln2 bt2 kk pl st2 en2 wg ws rc rg sk a = rb w' b th ct2 po pa pb pn pf ln2 bt2 kk pl st2 en2 wg ws rc rg sk a := by
  have q : a = b ∨ a = b + 1 ∨ a = b + 2 ∨ a = b + 3 ∨ a = b + 4 ∨ a = b + 5 ∨ a = b + 6 ∨ a = b + 7 ∨ a = b + 8 ∨ a = b + 9 ∨ a = b + 10 ∨ a = b + 11 ∨ a = b + 12 ∨ a = b + 13 ∨ a = b + 14 ∨ a = b + 15 ∨ a = b + 16 ∨ a = b + 17 := by omega
  rcases q with rfl | rfl | rfl | rfl | rfl | rfl | rfl | rfl | rfl | rfl | rfl | rfl | rfl | rfl | rfl | rfl | rfl | rfl
  · rw [rb_0, rb_0]
  · rw [rb_1, rb_1]
  · rw [rb_2, rb_2]
  · rw [rb_3, rb_3]
  · rw [rb_4, rb_4]
  · rw [rb_5, rb_5]
  · rw [rb_6, rb_6]
  · rw [rb_7, rb_7]
  · rw [rb_8, rb_8]
  · rw [rb_9, rb_9]
  · rw [rb_10, rb_10]
  · rw [rb_11, rb_11]
  · rw [rb_12, rb_12]
  · rw [rb_13, rb_13]
  · rw [rb_14, rb_14]
  · rw [rb_15, rb_15]
  · rw [rb_16, rb_16]
  · rw [rb_17, rb_17]
theorem rb_out (h : a < b ∨ b + 18 ≤ a) : rb w b th ct2 po pa pb pn pf ln2 bt2 kk pl st2 en2 wg ws rc rg sk a = w a := by
  unfold rb
  rw [if_neg (by omega), if_neg (by omega), if_neg (by omega), if_neg (by omega), if_neg (by omega), if_neg (by omega), if_neg (by omega), if_neg (by omega), if_neg (by omega), if_neg (by omega), if_neg (by omega), if_neg (by omega), if_neg (by omega), if_neg (by omega), if_neg (by omega), if_neg (by omega), if_neg (by omega), if_neg (by omega)]
theorem cb_out (h : g + 376 ≤ a) : cb w g ct ii ln bt wt en st mr ms mi a = w a := by
  unfold cb
  repeat rw [if_neg (by omega)]
theorem cb_w (h : w a = w' a) : cb w g ct ii ln bt wt en st mr ms mi a = cb w' g ct ii ln bt wt en st mr ms mi a := by
  unfold cb
  simp only [h]
theorem ew_w {P : Nat → Bool} (h : w a = w' a) : ew w P kc a = ew w' P kc a := by
  unfold ew
  rw [h]
theorem ecb_out (h : g + 376 ≤ a) : ew (cb w g ct ii ln bt wt en st mr ms mi) (cP g) kc a = w a := by
  rw [ew_out (by unfold cP; exact decide_eq_false (by omega)), cb_out h]
theorem jcomm (hb : g + 376 ≤ b) : ew (cb (rb w b th ct2 po pa pb pn pf ln2 bt2 kk pl st2 en2 wg ws rc rg sk) g ct ii ln bt wt en st mr ms mi) (cP g) kc = rb (ew (cb w g ct ii ln bt wt en st mr ms mi) (cP g) kc) b th ct2 po pa pb pn pf ln2 bt2 kk pl st2 en2 wg ws rc rg sk := by
  funext a
  by_cases h : b ≤ a ∧ a < b + 18
  · rw [ecb_out (by omega), rb_w h]
  · rw [rb_out (w := ew (cb w g ct ii ln bt wt en st mr ms mi) (cP g) kc) (by omega)]
    exact ew_w (cb_w (rb_out (by omega)))
end JT
