/-- what the class has read lies in its texts -/
theorem e_tkR {N s n : Nat} {c : St} (hs : s < 8) (hn : c 3 0 = n) (h24 : n ≤ 24) : One (d_x5_takeStream N 17 8 2 1 c 0 (s : Int)) (fun d _ => d 18 s = n ∧ (∀ p, p < n → (d 19 (24 * s + p) = c 4 p ∧ d 20 (24 * s + p) = c 5 p ∧ d 21 (24 * s + p) = c 6 p ∧ d 22 (24 * s + p) = c 7 p ∧ d 23 (24 * s + p) = c 8 p ∧ d 24 (24 * s + p) = c 9 p) ∧ ∀ l, l < 8 → d 25 (8 * (24 * s + p) + l) = c 10 (8 * p + l)) ∧ ∀ a k, ¬ (a = 18 ∧ k = s) → ¬ (19 ≤ a ∧ a ≤ 24 ∧ 24 * s ≤ k ∧ k < 24 * s + n) → ¬ (a = 25 ∧ 8 * (24 * s) ≤ k ∧ k < 8 * (24 * s + n)) → d a k = c a k) := by
  have gs : 0 ≤ (s : Int) ∧ (s : Int) < ((8 : Nat) : Int) := by omega
  have e : d_x5_takeStream N 17 8 2 1 c 0 (s : Int) = some (cp (cp (cp (cp (cp (cp (cp (up c 18 s (n : Int)) 4 0 19 (24 * s) n) 5 0 20 (24 * s) n) 6 0 21 (24 * s) n) 7 0 22 (24 * s) n) 8 0 23 (24 * s) n) 9 0 24 (24 * s) n) 10 0 25 (8 * (24 * s)) (8 * n), 0) := by
    unfold d_x5_takeStream
    have z : (0 : Int).toNat = 0 := rfl
    rw [w32_0, if_pos (by decide), w32i (x := (s : Int)) (by omega) (by omega), if_pos gs, bd_eq, if_pos gs, Int.toNat_natCast, z]
    show bV (d_x5_takeParts N 17 8 2 1 (up c 18 s (c 3 0)) (0 * 24) ((s : Int) * 24) (up c 18 s (c 3 0) 18 s)) (fun s2 => some (s2, 0)) = _
    rw [up_same, hn]
    unfold d_x5_takeParts
    have a1 : w32 ((0 : Int) * 24) = 0 := rfl
    have a2 : w32 ((s : Int) * 24) = (s : Int) * 24 := w32i (by omega) (by omega)
    have a3 : w32 (n : Int) = n := w32i (by omega) (by omega)
    have b1 : w32 ((0 : Int) * 24 * 8) = 0 := rfl
    have b2 : w32 ((s : Int) * 24 * 8) = (s : Int) * 24 * 8 := w32i (by omega) (by omega)
    have b3 : w32 ((n : Int) * 8) = (n : Int) * 8 := w32i (by omega) (by omega)
    have t2 : ((s : Int) * 24).toNat = 24 * s := by omega
    have t2' : ((s : Int) * 24 * 8).toNat = 8 * (24 * s) := by omega
    have t3' : ((n : Int) * 8).toNat = 8 * n := by omega
    have g : 0 ≤ (n : Int) ∧ (0 : Int) ≤ 0 ∧ 0 ≤ (s : Int) * 24 ∧ (0 : Int) + (n : Int) ≤ ((1 * 24 : Nat) : Int) ∧ (s : Int) * 24 + (n : Int) ≤ ((8 * 24 : Nat) : Int) := by omega
    have g' : 0 ≤ (n : Int) * 8 ∧ (0 : Int) ≤ 0 ∧ 0 ≤ (s : Int) * 24 * 8 ∧ (0 : Int) + (n : Int) * 8 ≤ ((1 * 192 : Nat) : Int) ∧ (s : Int) * 24 * 8 + (n : Int) * 8 ≤ ((8 * 192 : Nat) : Int) := by omega
    rw [a1, a2, a3, b1, b2, b3, if_pos g, bd_eq, if_pos g, bd_eq, if_pos g, bd_eq, if_pos g, bd_eq, if_pos g, bd_eq, if_pos g, bd_eq, if_pos g', bd_eq, t2, t2', t3', Int.toNat_natCast, z, bV_some]
  rw [e]
  refine One.ret ⟨?_, fun p hp => ⟨⟨?_, ?_, ?_, ?_, ?_, ?_⟩, fun l hl => ?_⟩, fun a k h1 h2 h3 => ?_⟩
  · rw [cp_ne (by decide), cp_ne (by decide), cp_ne (by decide), cp_ne (by decide), cp_ne (by decide), cp_ne (by decide), cp_ne (by decide), up_same]
  · rw [cp_ne (by decide), cp_ne (by decide), cp_ne (by decide), cp_ne (by decide), cp_ne (by decide), cp_ne (by decide), cp_app, if_pos (by omega), up_ne (by decide), show 0 + (24 * s + p - 24 * s) = p by omega]
  · rw [cp_ne (by decide), cp_ne (by decide), cp_ne (by decide), cp_ne (by decide), cp_ne (by decide), cp_app, if_pos (by omega), cp_ne (by decide), up_ne (by decide), show 0 + (24 * s + p - 24 * s) = p by omega]
  · rw [cp_ne (by decide), cp_ne (by decide), cp_ne (by decide), cp_ne (by decide), cp_app, if_pos (by omega), cp_ne (by decide), cp_ne (by decide), up_ne (by decide), show 0 + (24 * s + p - 24 * s) = p by omega]
  · rw [cp_ne (by decide), cp_ne (by decide), cp_ne (by decide), cp_app, if_pos (by omega), cp_ne (by decide), cp_ne (by decide), cp_ne (by decide), up_ne (by decide), show 0 + (24 * s + p - 24 * s) = p by omega]
  · rw [cp_ne (by decide), cp_ne (by decide), cp_app, if_pos (by omega), cp_ne (by decide), cp_ne (by decide), cp_ne (by decide), cp_ne (by decide), up_ne (by decide), show 0 + (24 * s + p - 24 * s) = p by omega]
  · rw [cp_ne (by decide), cp_app, if_pos (by omega), cp_ne (by decide), cp_ne (by decide), cp_ne (by decide), cp_ne (by decide), cp_ne (by decide), up_ne (by decide), show 0 + (24 * s + p - 24 * s) = p by omega]
  · rw [cp_app, if_pos (by omega), cp_ne (by decide), cp_ne (by decide), cp_ne (by decide), cp_ne (by decide), cp_ne (by decide), cp_ne (by decide), up_ne (by decide), show 0 + (8 * (24 * s + p) + l - 8 * (24 * s)) = 8 * p + l by omega]
  · rw [cp_app, if_neg (by omega), cp_app, if_neg (by omega), cp_app, if_neg (by omega), cp_app, if_neg (by omega), cp_app, if_neg (by omega), cp_app, if_neg (by omega), cp_app, if_neg (by omega), up_o h1]
