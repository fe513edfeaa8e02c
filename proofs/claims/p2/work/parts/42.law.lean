/-! The law: its head, what it begins with. -/
noncomputable section
def yLw : yHd := (18, ([some (.inr (.inr (.inr (.inr ())))), some (.inr (.inr (.inl (([], .ofNat 0), 0)))), some (.inr (.inr (.inl (([], .ofNat 74), 63)))), some (.inl ([(1, .ofNat 1)], .ofNat 0))], (12, [(0, .ofNat 0, .ofNat 3072), (1, .ofNat 0, .ofNat 3072), (2, .negSucc 2147483647, .ofNat 2147483647), (3, .negSucc 2147483647, .ofNat 2147483647), (4, .negSucc 2147483647, .ofNat 2147483647), (5, .negSucc 2147483647, .ofNat 2147483647), (6, .negSucc 2147483647, .ofNat 2147483647), (7, .ofNat 0, .ofNat 1700), (8, .ofNat 0, .ofNat 100000), (9, .ofNat 0, .ofNat 40), (10, .ofNat 0, .ofNat 40), (11, .ofNat 0, .ofNat 6)], [([(9, .ofNat 1), (10, .ofNat 1)], .negSucc 39), ([(0, .negSucc 0), (1, .ofNat 1)], .ofNat 0)], [], [((([], .ofNat 0), 0, ([], .ofNat 1)), .inl ([(7, .ofNat 1)], .ofNat 0)), ((([], .ofNat 74), 63, ([], .ofNat 1)), .inl ([(7, .ofNat 1)], .ofNat 0)), ((([], .ofNat 59), 48, ([], .ofNat 1)), .inl ([(8, .ofNat 1)], .ofNat 0)), ((([], .ofNat 74), 63, ([], .ofNat 99)), .inl ([(8, .ofNat 1)], .ofNat 0)), ((([], .ofNat 74), 63, ([], .ofNat 73)), .inl ([(9, .ofNat 1)], .ofNat 0)), ((([], .ofNat 74), 63, ([], .ofNat 74)), .inl ([(10, .ofNat 1)], .ofNat 0)), ((([], .ofNat 74), 63, ([], .ofNat 49)), .inl ([(11, .ofNat 1)], .ofNat 0))], [((([], .ofNat 94), 83), ([(11, .ofNat 1)], .ofNat 0), ([], .ofNat 0), ([], .ofNat 999)), ((([], .ofNat 95), 84), ([(11, .ofNat 1)], .ofNat 0), ([], .ofNat 0), ([], .ofNat 999))])), ([(0, .ofNat 1), (1, .negSucc 0)], .ofNat 0))
def yLe : yE := ([(1, .ofNat 1)], .ofNat 0)
def yLa0 : yE := ([(2, .ofNat 1)], .ofNat 0)
def yLa1 : yE := ([(3, .ofNat 1)], .ofNat 0)
def yLa2 : yE := ([(4, .ofNat 1)], .ofNat 0)
def yLa3 : yE := ([(5, .ofNat 1)], .ofNat 0)
def yLa4 : yE := ([(6, .ofNat 1)], .ofNat 0)
def yLps : List (Option yA) := [some (.inl yLa0), some (.inl yLa1), some (.inl yLa2), some (.inl yLa3), some (.inl yLa4)]
def yLst : yS := (1, [(0, .ofNat 0, .ofNat 3072)], [], [], [((([], .ofNat 0), 0, ([], .ofNat 1)), .inl ([], .ofNat 0)), ((([], .ofNat 74), 63, ([], .ofNat 1)), .inl ([], .ofNat 0)), ((([], .ofNat 59), 48, ([], .ofNat 1)), .inl ([], .ofNat 0)), ((([], .ofNat 74), 63, ([], .ofNat 99)), .inl ([], .ofNat 0)), ((([], .ofNat 74), 63, ([], .ofNat 73)), .inl ([], .ofNat 0)), ((([], .ofNat 74), 63, ([], .ofNat 74)), .inl ([], .ofNat 0)), ((([], .ofNat 74), 63, ([], .ofNat 49)), .inl ([], .ofNat 0))], [])
def yLL : List (Option yA) := [some (.inr (.inr (.inr (.inr ())))), some (.inr (.inr (.inl (([], .ofNat 0), 0)))), some (.inr (.inr (.inl (([], .ofNat 74), 63)))), some (.inl ([], .ofNat 0))]
def yLb : yE := ([], .ofNat 1000)
def yLn : yE := ([(0, .ofNat 1)], .ofNat 0)
end
