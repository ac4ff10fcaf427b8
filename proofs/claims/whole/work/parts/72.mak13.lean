section JL3
variable {X : Cx} {cc : ByteArray} {own : String} {D kc ks pc pc' n : Nat} {lv lv' : List (Option Value)} {st : List Value} {σ : St} {ct : Cn}
theorem jl_getV (F : Fx X cc own D) {C : String} {T : u_T} {N ci k i index : Nat} {ds : List (Option Nat)} {v : Value} (hc : vwCl[ci]? = some (C, T, N)) (hin : ∀ w ∈ u_ws C T N, w ∈ UW) (hi : i < N) (hw : Cond.fieldLink own index (T i).1 (T i).2.1 (T i).2.2.1 ∈ UW) (hk : k < X.n) (hs : shpL[k]? = some (.inr (ci, ds))) (hv : (sl X.E.1 (σ k) 0 ds)[i]? = some v) (d : decode cc pc = .ok (.getfield index, 3)) (hp : pc + 3 = pc') (kk : JL X kc ks pc' lv (v :: st) σ) : JL X kc ks pc lv (.ref (X.E.1 + k) :: st) σ := by
  intro H locs ls a b h
  have hP : va_P (X.E.2.1, X.E.2.2.1) vwCl [(X.E.1 + k, .inr (ci, sl X.E.1 (σ k) 0 ds))] H := fun q x hx => by
    have hz : q < 1 := (List.getElem?_eq_some_iff.mp hx).1
    rw [show q = 0 by omega] at hx
    cases hx
    exact a k _ hk hs
  subst hp
  exact va_get F.1.1 F.1.2.1 F.1.2.2.2.2 hin F.1.2.2.2.1 F.2.1.1 hP 0 rfl hc i hi (F.1.2.2.2.2 _ hw) (fun _ h9 => h9) hv d (kk H locs ls a b h)
theorem jl_getR (F : Fx X cc own D) {C : String} {T : u_T} {N ci k i r index : Nat} {ds : List (Option Nat)} (hc : vwCl[ci]? = some (C, T, N)) (hin : ∀ w ∈ u_ws C T N, w ∈ UW) (hi : i < N) (hw : Cond.fieldLink own index (T i).1 (T i).2.1 (T i).2.2.1 ∈ UW) (hk : k < X.n) (hs : shpL[k]? = some (.inr (ci, ds))) (hv : ds[i]? = some (some r)) (d : decode cc pc = .ok (.getfield index, 3)) (hp : pc + 3 = pc') (kk : JL X kc ks pc' lv (.ref (X.E.1 + r) :: st) σ) : JL X kc ks pc lv (.ref (X.E.1 + k) :: st) σ :=
  jl_getV F hc hin hi hw hk hs (sl_ref hv) d hp kk
end JL3
theorem rep_of2 {n : Nat} {E : Ev} {ct : Cn} {σ : St} {H : Heap} (h : RpN n E ct H) (hc : ∀ k s, k < n → shpL[k]? = some s → ∀ Hz, va_at (E.2.1, E.2.2.1) vwCl (E.1 + k, ct k) Hz → va_at (E.2.1, E.2.2.1) vwCl (E.1 + k, contS E s (σ k)) Hz) : Rep n E σ H := fun k s hk hs => hc k s hk hs H (h.2 k hk)
theorem arQ_ext {E : Ev} {N k r : Nat} {f : Nat → Option Nat} {z : Nat → Int32} {Hz : Heap} (hf : ∀ j, j < N → f j = some (E.1 + (r + 3 * j))) (h : va_at (E.2.1, E.2.2.1) vwCl (E.1 + k, arQ E N f) Hz) : va_at (E.2.1, E.2.2.1) vwCl (E.1 + k, contS E (.inl (3, N, r)) z) Hz := by
  have h' : Hz[E.1 + k]? = some (arrV (E.2.2.2 3) N (fun j => va_rf (f j))) := h
  show Hz[E.1 + k]? = some (arrV (E.2.2.2 3) N (fun j => .ref (E.1 + (r + 3 * j))))
  rw [h']
  unfold arrV
  congr 3
  funext j
  show va_rf (f j.val) = _
  rw [hf j.val j.isLt]
  rfl

def lpC (E : Ev) (ct : Cn) : Cn := (cset (mkPl E (cset (cset (mkPl E (cset (cset (cset (cset (cset (cset (cset (cset (mk3 E (cset (cset (mk0 E (cset (cset (pastC E (cset (cset (mk4 E (cset (cset (mkPl E (cset (cset (mkPl E (cset ct 1 (.inr (2, plV))) 1 2) 0 (.inr (5, [.ref (E.1 + 1), .null, .null, .null, .null, .null, .null, .null, .null, .int 0]))) 4 (.inr (2, plV))) 4 5) 0 (.inr (5, [.ref (E.1 + 1), .ref (E.1 + 4), .null, .null, .null, .null, .null, .null, .null, .int 0]))) 7 (.inr (4, [.null, .int 0, .int 0, .int 0, .int 0, .int 0]))) 7 8) 0 (.inr (5, [.ref (E.1 + 1), .ref (E.1 + 4), .ref (E.1 + 7), .null, .null, .null, .null, .null, .null, .int 0]))) 9 (.inr (1, [.null, .int 0, .int 0]))) 9 10 10) 0 (.inr (5, [.ref (E.1 + 1), .ref (E.1 + 4), .ref (E.1 + 7), .ref (E.1 + 9), .null, .null, .null, .null, .null, .int 0]))) 41 (.inr (0, [.null]))) 41 42) 0 (.inr (5, [.ref (E.1 + 1), .ref (E.1 + 4), .ref (E.1 + 7), .ref (E.1 + 9), .ref (E.1 + 41), .null, .null, .null, .null, .int 0]))) 43 (.inr (3, [.null, .null, .int 0, .int 0, .int 0, .int 0, .int 0]))) 43 44) 0 (.inr (5, [.ref (E.1 + 1), .ref (E.1 + 4), .ref (E.1 + 7), .ref (E.1 + 9), .ref (E.1 + 41), .ref (E.1 + 43), .null, .null, .null, .int 0]))) 46 (arQ E 2 (fun _ => none))) 0 (.inr (5, [.ref (E.1 + 1), .ref (E.1 + 4), .ref (E.1 + 7), .ref (E.1 + 9), .ref (E.1 + 41), .ref (E.1 + 43), .ref (E.1 + 46), .null, .null, .int 0]))) 47 (arI E 2 2)) 0 (.inr (5, [.ref (E.1 + 1), .ref (E.1 + 4), .ref (E.1 + 7), .ref (E.1 + 9), .ref (E.1 + 41), .ref (E.1 + 43), .ref (E.1 + 46), .ref (E.1 + 47), .null, .int 0]))) 48 (arI E 0 18)) 0 (.inr (5, [.ref (E.1 + 1), .ref (E.1 + 4), .ref (E.1 + 7), .ref (E.1 + 9), .ref (E.1 + 41), .ref (E.1 + 43), .ref (E.1 + 46), .ref (E.1 + 47), .ref (E.1 + 48), .int 0]))) 49 (.inr (2, plV))) 49 50) 46 (arQ E 2 (va_up (fun _ => none) 0 (some (E.1 + 49))))) 52 (.inr (2, plV))) 52 53) 46 (arQ E 2 (va_up (va_up (fun _ => none) 0 (some (E.1 + 49))) 1 (some (E.1 + 52)))))
theorem okV4 : ∀ q, q < 6 → defaultValue (tyX4 q) = vp_V [.null, .int 0, .int 0, .int 0, .int 0, .int 0] q := by
  intro q hq
  rcases (show q = 0 ∨ q = 1 ∨ q = 2 ∨ q = 3 ∨ q = 4 ∨ q = 5 by omega) with rfl | rfl | rfl | rfl | rfl | rfl <;> rfl
theorem okV1 : ∀ q, q < 3 → defaultValue (tyX1 q) = vp_V [.null, .int 0, .int 0] q := by
  intro q hq
  rcases (show q = 0 ∨ q = 1 ∨ q = 2 by omega) with rfl | rfl | rfl <;> rfl
theorem okV0 : ∀ q, q < 1 → defaultValue (tyX0 q) = vp_V [.null] q := by
  intro q hq
  rcases (show q = 0 by omega) with rfl <;> rfl
theorem okV3 : ∀ q, q < 7 → defaultValue (tyX3 q) = vp_V [.null, .null, .int 0, .int 0, .int 0, .int 0, .int 0] q := by
  intro q hq
  rcases (show q = 0 ∨ q = 1 ∨ q = 2 ∨ q = 3 ∨ q = 4 ∨ q = 5 ∨ q = 6 by omega) with rfl | rfl | rfl | rfl | rfl | rfl | rfl <;> rfl
set_option maxRecDepth 10000 in
theorem lpC_ok {E : Ev} {ct : Cn} : ∀ k s, k < 55 → shpL[k]? = some s → ∀ Hz, va_at (E.2.1, E.2.2.1) vwCl (E.1 + k, lpC E ct k) Hz → va_at (E.2.1, E.2.2.1) vwCl (E.1 + k, contS E s ((fun _ _ => 0 : St) k)) Hz := by
  intro k s hk hs Hz h
  rcases (show k = 0 ∨ k = 1 ∨ k = 2 ∨ k = 3 ∨ k = 4 ∨ k = 5 ∨ k = 6 ∨ k = 7 ∨ k = 8 ∨ k = 9 ∨ k = 10 ∨ k = 11 ∨ k = 12 ∨ k = 13 ∨ k = 14 ∨ k = 15 ∨ k = 16 ∨ k = 17 ∨ k = 18 ∨ k = 19 ∨ k = 20 ∨ k = 21 ∨ k = 22 ∨ k = 23 ∨ k = 24 ∨ k = 25 ∨ k = 26 ∨ k = 27 ∨ k = 28 ∨ k = 29 ∨ k = 30 ∨ k = 31 ∨ k = 32 ∨ k = 33 ∨ k = 34 ∨ k = 35 ∨ k = 36 ∨ k = 37 ∨ k = 38 ∨ k = 39 ∨ k = 40 ∨ k = 41 ∨ k = 42 ∨ k = 43 ∨ k = 44 ∨ k = 45 ∨ k = 46 ∨ k = 47 ∨ k = 48 ∨ k = 49 ∨ k = 50 ∨ k = 51 ∨ k = 52 ∨ k = 53 ∨ k = 54 by omega) with rfl | rfl | rfl | rfl | rfl | rfl | rfl | rfl | rfl | rfl | rfl | rfl | rfl | rfl | rfl | rfl | rfl | rfl | rfl | rfl | rfl | rfl | rfl | rfl | rfl | rfl | rfl | rfl | rfl | rfl | rfl | rfl | rfl | rfl | rfl | rfl | rfl | rfl | rfl | rfl | rfl | rfl | rfl | rfl | rfl | rfl | rfl | rfl | rfl | rfl | rfl | rfl | rfl | rfl | rfl
  · cases hs; exact h
  · cases hs; exact h
  · cases hs; exact h
  · cases hs; exact h
  · cases hs; exact h
  · cases hs; exact h
  · cases hs; exact h
  · cases hs; exact h
  · cases hs; exact h
  · cases hs; exact h
  · cases hs
    exact arQ_ext (f := ringF E 10 10) (r := 11) (fun jj hjj => by rw [ringF, if_pos hjj]) h
  · cases hs; exact h
  · cases hs; exact h
  · cases hs; exact h
  · cases hs; exact h
  · cases hs; exact h
  · cases hs; exact h
  · cases hs; exact h
  · cases hs; exact h
  · cases hs; exact h
  · cases hs; exact h
  · cases hs; exact h
  · cases hs; exact h
  · cases hs; exact h
  · cases hs; exact h
  · cases hs; exact h
  · cases hs; exact h
  · cases hs; exact h
  · cases hs; exact h
  · cases hs; exact h
  · cases hs; exact h
  · cases hs; exact h
  · cases hs; exact h
  · cases hs; exact h
  · cases hs; exact h
  · cases hs; exact h
  · cases hs; exact h
  · cases hs; exact h
  · cases hs; exact h
  · cases hs; exact h
  · cases hs; exact h
  · cases hs; exact h
  · cases hs; exact h
  · cases hs; exact h
  · cases hs; exact h
  · cases hs; exact h
  · cases hs
    exact arQ_ext (f := va_up (va_up (fun _ => none) 0 (some (E.1 + 49))) 1 (some (E.1 + 52))) (r := 49) (fun jj hjj => by rcases (show jj = 0 ∨ jj = 1 by omega) with rfl | rfl <;> rfl) h
  · cases hs; exact h
  · cases hs; exact h
  · cases hs; exact h
  · cases hs; exact h
  · cases hs; exact h
  · cases hs; exact h
  · cases hs; exact h
  · cases hs; exact h
theorem CR_new {σ' : St} (hP : PlanOK σ' 1 (P0 6 6)) (hf : Fr [1, 1 + 1, 1 + 2] (fun _ _ => 0) σ') : CR σ' A0 := by
  have z : ∀ a, 3 < a ∨ a < 1 → σ' a = fun _ => 0 := fun a ha => hf a (by simp only [List.mem_cons, List.not_mem_nil, or_false]; omega)
  refine ⟨hP, ⟨by rw [z 7 (Or.inl (by decide))]; rfl, Nat.zero_le _, fun i hi => absurd hi (Nat.not_lt_zero i)⟩, ⟨0, by decide, by rw [z 9 (Or.inl (by decide))]; rfl, by rw [z 9 (Or.inl (by decide))]; rfl, Nat.zero_le _, fun i hi => absurd hi (Nat.not_lt_zero i)⟩, fun i hi => ⟨fun _ => by rw [z 47 (Or.inl (by decide))]; rfl, fun Q q => by cases q⟩, ⟨by rw [z 0 (Or.inr (by decide))]; rfl, fun i hi => absurd hi (Nat.not_lt_zero i)⟩⟩
