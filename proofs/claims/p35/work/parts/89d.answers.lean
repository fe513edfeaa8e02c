/-! Answers: what ghost facts say, of the third machine's cells. -/
section xAnswers
variable {sz : Nat} {ca : Nat → ClassId} {ws : va_W} {f : Nat → Nat → tC → Int → eK → Int} {n : Int}
theorem gAN_im (hW : yWd sz ySr yTt ca ws) (h : gANS f (kC (yKo ySr ws)) n) : gANS f (xIm sz ws) n :=
  gANS_keep (rSm_ct hW (xIm_ct hW)) (kC_fd hW (xIm_ct hW) (by decide +kernel)) (kC_fd hW (xIm_ct hW) (by decide +kernel)) ⟨kC_ln hW (xIm_ct hW) (by decide +kernel), kC_ln hW (xIm_ct hW) (by decide +kernel), kC_ln hW (xIm_ct hW) (by decide +kernel), kC_ln hW (xIm_ct hW) (by decide +kernel), kC_ln hW (xIm_ct hW) (by decide +kernel)⟩ h
theorem gAN_of (hW : yWd sz ySr yTt ca ws) (h : gANS f (xIm sz ws) n) : gANS f (kC (yKo ySr ws)) n :=
  gANS_keep (rSm_symm (rSm_ct hW (xIm_ct hW))) (kC_fd hW (xIm_ct hW) (by decide +kernel)).symm (kC_fd hW (xIm_ct hW) (by decide +kernel)).symm ⟨fun j q => (kC_ln hW (xIm_ct hW) (by decide +kernel) j q).symm, fun j q => (kC_ln hW (xIm_ct hW) (by decide +kernel) j q).symm, fun j q => (kC_ln hW (xIm_ct hW) (by decide +kernel) j q).symm, fun j q => (kC_ln hW (xIm_ct hW) (by decide +kernel) j q).symm, fun j q => (kC_ln hW (xIm_ct hW) (by decide +kernel) j q).symm⟩ h
end xAnswers
