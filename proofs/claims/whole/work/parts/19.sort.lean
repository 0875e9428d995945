/-! Tokens.sortOfWord: by hand, it reads the static WORDS -/
theorem kX5_sortOfWord (l : Launch) (G : GG) (SB S : St) {xv0 : Int64} {x0 : Int} (xt0 : xv0.toInt = x0) {k : Int → Prop} (h : wX5_sortOfWord S x0 k) : CnI l yX5_sortOfWord cX5_sortOfWord 3 (some .int) 0 0 G (injC SB) [.long xv0] S (fun r u => k r ∧ u = S) := sorry
