theorem wv_e {sv mm_ mn_ : Int32} {sq iw : Nat} (h1 : sv = nI sq) (h2 : mm_ = 2000 * sv) (h3 : mn_ = mm_ + nI iw) : mn_ = nI (2000 * sq + iw) := by
  rw [h3, h2, h1, show (2000 : Int32) * nI sq = nI (2000 * sq) from pk_mul 2000 sq, nI_add]
theorem wv_c {sv mm_ mn_ : Int32} {sq iw : Nat} (h1 : sv = nI sq) (h2 : mm_ = 2000 * sv) (h3 : mn_ = mm_ + nI iw) (h4 : 2000 * sq + iw < 2 ^ 31) : mn_.toNatClampNeg = 2000 * sq + iw := by
  rw [wv_e h1 h2 h3]; exact nI_clamp h4
theorem wv_in {sv mm_ mn_ : Int32} {sq iw : Nat} (h1 : sv = nI sq) (h2 : mm_ = 2000 * sv) (h3 : mn_ = mm_ + nI iw) (h4 : sq < 32) (h5 : iw < 2000) : vp_in mn_ 64000 := by
  rw [wv_e h1 h2 h3]; exact vp_in_nI (by omega) (by decide)
theorem nI_ne1 {aa : Nat} (hh : aa < 2 ^ 31) : ¬ nI aa = -1 := by
  intro qv
  have := congrArg Int32.toInt qv
  rw [nI_toInt hh] at this
  have e1 : (-1 : Int32).toInt = -1 := rfl
  omega
