def fG19 (k : Nat) (i j : Int) : Prop := k = 19
theorem CI.g19 {S S' : wSt} (h : CI S) (f : Fr fG19 S S') : CI S' := h.fr (f.mono (fun k i j q => by unfold fG19 at q; unfold tC; omega))
