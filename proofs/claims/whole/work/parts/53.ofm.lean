section XM
variable {h g : hT} {n : Nat} {N : Nat → Nat} {I : Nat → Option (Nat → Nat)} {tn : Nat} {bt : Nat → Nat} {ab be rb rn rf : Nat}
/-- only the reference's cells are others -/
theorem XS.ofm (X : XS h n N I tn bt ab be rb rn rf) (F : ∀ a, a < 63 ∨ 71 < a → g a = h a) : XS g n N I tn bt ab be rb rn rf := by
  obtain ⟨⟨x1, x0⟩, x2, ⟨M, x3, x4⟩, x5, ⟨s1, m1, f1, s2, s3⟩, ⟨a, p, s, v, x7⟩, ⟨x8, m2, f2, x9, y1⟩, ⟨m3, f3, y2, y3⟩, y4⟩ := X
  obtain ⟨m5, f5, D, W, ob, cd, op, dp, k7, k8, k9, k0, k1, k2, k3, kw⟩ := x5
  refine ⟨⟨?_, x0⟩, x2.of (fun a _ _ => F a (by omega)), ⟨M, x3.of (fun a _ _ => F a (by omega)), x4⟩, ⟨m5, f5, D, W, ob, cd, op, dp, ?_, ?_, ?_, ?_, ?_, ?_, ?_, kw⟩, ⟨?_, m1, f1, ?_, ?_⟩, ⟨a, p, s, v, ?_⟩, ⟨?_, m2, f2, ?_, ?_⟩, ⟨m3, f3, ?_, ?_⟩, y4.of (fun a ha => F a (by omega))⟩ <;> (rw [F _ (by omega)]; assumption)
end XM
