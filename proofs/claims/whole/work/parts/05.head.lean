def GT (z : zT) (cI cB cN : ClassId) : Prop := (zty z)[0]? = some (cI, .int) ∧ (zty z)[1]? = some (cB, .boolean) ∧ (zty z)[2]? = some (cN, .object RX0)
theorem BM.rc1 {z : zT} {ret : Option FieldType} {ws0 : va_W} {mc ms : Nat} {Post : Option Value → mM → Prop} (Y : BQ z ret ws0 mc ms Post) : (zR z).cells = mc := Y.rc.1
theorem BM.rc2 {z : zT} {ret : Option FieldType} {ws0 : va_W} {mc ms : Nat} {Post : Option Value → mM → Prop} (Y : BQ z ret ws0 mc ms Post) : (zR z).slots = ms := Y.rc.2
