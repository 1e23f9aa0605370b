/** Section 5 of the document: trades, harvest, ships, sheets, the rate; promises 30 to 36, 43 and 45. */
final class EdgeWeeks {
    private EdgeWeeks() {
    }

    static void all() {
        trades();
        proceeds();
        seasons();
        ships();
        sheets();
        sheetSums();
        reserves();
        rates();
        tradePromises();
        seasonPromises();
        counts();
    }

    private static void trades() {
        EdgeTest.edge("TRADES 0 .. 7 as they come: a buyer and a seller (MERCHANTS, unlike), a BASE (1 .. 9999),"
                + " so many DAYS (1 .. 60).", PaperTests.FOUR + """
                trade(1, 2, 0, 5) -7
                trade(1, 2, -1, 5) -7
                trade(1, 2, 10000, 5) -7
                trade(1, 2, 2147483647, 5) -7
                trade(1, 2, 5, 0) -7
                trade(1, 2, 5, -1) -7
                trade(1, 2, 5, 61) -7
                trade(1, 2, 5, -2147483648) -7
                trade(1, 1, 5, 5) -7
                trade(1, 3, 5, 5) -5
                trade(3, 1, 5, 5) -5
                trade(1, 0, 5, 5) -5
                trade(0, 1, 5, 5) -5
                count(5) 0
                trade(1, 2, 9999, 60) 0
                trade(1, 2, 2, 1) 1
                trade(2, 1, 1, 5) 2
                4 x trade(2, 1, 9998, 59) 3..
                count(5) 7
                trade(2, 1, 9998, 59) 7
                trade(2, 1, 5, 5) -8
                trade(1, 1, 5, 5) -7         # NO is ahead of FULL
                count(5) 8
                rate(0) 5
                run(1) 0
                count(4) 8
                of(0, 1) 9999
                of(0, 4) 60
                of(1, 1) 2
                of(1, 4) 1
                of(2, 1) 1
                of(7, 1) 9998
                of(7, 4) 59
                of(7, 2) 2
                """);
        EdgeTest.edge("a BILL: its SUM is BASE times (100 less 2 RATE) / 100 (none, if that is 0), DEBTOR the buyer,"
                + " drawn and held by the seller, DUE so many DAYS on.", PaperTests.FOUR + """
                trade(1, 2, 1, 60) 0
                trade(1, 2, 2, 60) 1
                trade(2, 1, 9999, 60) 2
                rate(0) 5
                run(1) 0
                of(0, 1) 1
                of(1, 1) 2
                of(2, 1) 9999
                rate(1) 0
                run(7) 0
                of(3, 1) 1                   # of 1 none, of 2 196 / 100
                of(4, 1) 9799
                count(4) 5
                rate(20) 1
                run(7) 0
                of(5, 1) 1                   # 120 / 100
                of(6, 1) 5999
                of(6, 0) 1
                of(6, 2) 2
                of(6, 3) 1
                of(6, 4) 74
                of(6, 5) 0
                of(6, 6) 2
                name(6, 0) 2
                name(6, 1) 1
                of(6, 10) 1
                count(4) 7
                """);
        EdgeTest.edge("If it goes on, and both are UP, and a PAPER is free", PaperTests.FOUR + """
                gold(3, 900) 900
                trade(1, 2, 100, 60) 0
                trade(2, 1, 200, 60) 1
                trade(1, 2, 1, 60) 2
                58 x promise(3, 4, 1, 9) 0..
                promise(3, 4, 1, 1) 58
                goesOn(0, 0) 1
                run(1) 0
                of(59, 1) 180                # one was free, and trade 1 the first that went on
                count(4) 60
                run(6) 0
                goesOn(0, 1) 0
                of(58, 0) -3
                run(1) 0
                of(58, 1) 90                 # again one is free
                of(58, 2) 1
                count(4) 60
                """);
        EdgeTest.edge("If it goes on, and both are UP, and a PAPER is free", PaperTests.FOUR + """
                trade(1, 2, 100, 60) 0
                60 x promise(3, 4, 1, 50) 0..
                run(1) 0
                count(4) 60
                of(0, 0) 0
                run(7) 0
                of(59, 0) 0
                count(4) 60
                """);
    }

    private static void proceeds() {
        for (String told : new String[] {"0 0 1", "99 89 1", "100 0 0", "101 0 0", "112 10 0", "200 90 0"}) {
            String[] due = told.split(" ");
            EdgeTest.edge("PROCEEDS of a BILL by TRADE: as it is DUE, ahead of all, if the DEBTOR is UP: GOLD comes to"
                    + " it: SUM times the HARVEST / 100.", PaperTests.FOUR + "tell(0, 1, " + due[0] + ") -1\n" + """
                    tell(0, 0, 33) -1
                    trade(1, 2, 100, 7) 0
                    run(7) 0
                    look(1, 2) 0
                    """ + "run(1) " + due[2] + "\nlook(1, 2) " + due[1] + "\n");
        }
        EdgeTest.edge("PROCEEDS of a BILL by TRADE: as it is DUE", PaperTests.FOUR + """
                tell(0, 0, 150) -1
                tell(0, 1, 10) -1
                gold(2, 100) 100
                trade(1, 2, 100, 6) 0
                trade(2, 1, 100, 7) 1
                run(1) 0
                bill(1, 2, 20, 5) 2
                run(6) 0
                look(1, 2) 25                # 135 came, 90 and 20 went: none came by the bill by hand
                look(2, 2) 210
                run(1) 0
                look(2, 2) 129               # 9 came, in WEEK 1
                look(1, 2) 115
                """);
        EdgeTest.edge("if the DEBTOR is UP: GOLD comes to it", PaperTests.FOUR + """
                trade(1, 2, 100, 9) 0
                promise(1, 4, 5, 8) 0
                run(1) 0
                run(8) 1
                look(1, 4) 0
                run(1) 0
                look(1, 2) 0
                of(1, 5) 2
                """);
    }

    private static void seasons() {
        EdgeTest.edge("HARVEST (0 .. 200) and ABROAD (0 .. 20) have a ROW each of 52 numbers, for WEEKS modulo 52,"
                + " or GAPS (all are at first)", """
                week(0, 0) 100
                week(1, 0) 5
                week(0, 2147483647) 100
                tell(0, 0, -2) 0
                tell(0, 0, 201) 0
                tell(0, 0, 2147483647) 0
                tell(0, 0, -2147483648) 0
                tell(1, 0, -2) 0
                tell(1, 0, 21) 0
                status(-7) 6
                week(0, 0) 100
                tell(0, 0, 0) -1
                week(0, 0) 0
                tell(0, 0, 1) 0
                tell(0, 0, 199) 1
                tell(0, 0, 200) 199
                week(0, 0) 200
                tell(1, 0, 0) -1
                tell(1, 0, 1) 0
                tell(1, 0, 19) 1
                tell(1, 0, 20) 19
                week(1, 0) 20
                tell(0, 51, 7) -1
                week(0, 50) 200
                week(0, 51) 7
                week(0, 52) 200
                week(0, 102) 200
                week(0, 103) 7
                week(0, 104) 200
                week(0, 2147483647) 200      # place 23
                tell(0, 23, 9) -1
                tell(0, 24, 8) -1
                week(0, 2147483647) 9        # 23 of the 52
                week(0, 2147483646) 200
                tell(0, 0, -1) 200
                week(0, 52) 7
                status(-7) 6
                """);
        EdgeTest.edge("of a WEEK that is a GAP: that of the nearest WEEK before it, round the 52, that is none;"
                + " if all are: 100, 5.", """
                tell(0, 1, 50) -1
                week(0, 0) 50                # fifty-one weeks before it
                week(0, 1) 50
                week(0, 51) 50
                tell(0, 51, 60) -1
                week(0, 0) 60
                week(0, 1) 50
                week(0, 50) 50
                tell(0, 0, 70) -1
                week(0, 0) 70
                tell(0, 3, 0) -1
                week(0, 2) 50
                week(0, 3) 0                 # 0 is no gap
                week(0, 4) 0
                tell(0, 3, -1) 0
                week(0, 4) 50
                tell(0, 0, -1) 70
                tell(0, 1, -1) 50
                week(0, 40) 60
                tell(0, 51, -1) 60
                week(0, 40) 100
                week(1, 40) 5
                tell(1, 51, 0) -1
                week(1, 50) 0
                week(0, 50) 100
                """);
    }

    private static void ships() {
        for (String told : new String[] {"16 1 -1", "15 0 -1", "14 0 6", "0 0 6"}) {
            String[] due = told.split(" ");
            EdgeTest.edge("If it is above 0 THE BANK's GOLD is x more; below 0: -x less, but 0 at least; if it had not"
                    + " so much THE BANK is STOPPED, if it isn't yet.", "flow(1) 0\ntell(1, 0, 20) -1\ngold(0, "
                    + due[0] + ") " + due[0] + "\nrun(6) 0\nlook(0, 2) " + due[0] + "\nrun(1) 0\nlook(0, 2) " + due[1]
                    + "\ncount(14) " + due[2] + "\n");
        }
        EdgeTest.edge("SHIPS: x is FLOW (0 .. 100; 0 at first) times (RATE less ABROAD).", """
                flow(-1) -7
                flow(101) -7
                flow(2147483647) -7
                flow(-2147483648) -7
                flow(1) 0
                flow(99) 1
                flow(100) 99
                tell(1, 0, 0) -1
                tell(1, 3, 20) -1
                rate(20) 5
                run(7) 0
                look(0, 2) 2000              # 100 * 20
                rate(0) 20
                run(7) 0
                look(0, 2) 2000              # 0 is neither
                rate(1) 0
                run(7) 0
                look(0, 2) 2100
                run(7) 0
                look(0, 2) 200               # -1900, in the WEEK 3
                flow(0) 100
                run(7) 0
                look(0, 2) 200
                count(14) -1
                flow(100) 0
                run(7) 0
                look(0, 2) 0
                count(14) 41
                """);
        EdgeTest.edge("if it had not so much THE BANK is STOPPED, if it isn't yet.", """
                house(0, 0) 1
                tape lift 1
                text(0, 9) 0
                give(0, 1, 10) 0
                flow(1) 0
                tell(1, 0, 6) -1
                run(2) 0
                present(1, 1) 0
                count(14) 2
                run(5) 0
                count(14) 2                  # the day stays
                run(7) 0
                count(14) 2
                look(0, 2) 0
                rate(7) 5
                run(7) 0
                look(0, 2) 1                 # gold may come, and go
                rate(6) 7
                run(7) 0
                look(0, 2) 1
                """);
        EdgeTest.edge("THE BANK is STOPPED, if it isn't yet.", """
                flow(1) 0
                tell(1, 0, 6) -1
                run(7) 0
                count(14) 6
                run(7) 0
                count(14) 6
                """);
    }

    private static void sheets() {
        EdgeTest.edge("Shown are those whose bit the LAW show has.", """
                house(0, 0) 1
                house(0, 0) 2
                gold(0, 300) 300
                rate(0) 5
                give(0, 1, 70) 300
                tape lend 100
                text(0, 99) 0
                bill(1, 2, 40, 60) 0
                bill(1, 2, 30, 60) 1
                help(0, 50) 2
                sell(1) 30
                tape show 0
                text(0, 7) 1
                tape show 21
                text(7, 14) 2
                tape show 42
                text(14, 21) 3
                tape show 64
                text(21, 28) 4
                tape show 0-1
                text(28, 35) 5
                run(49) 0
                sheet(0, 0) -1
                sheet(0, 1) -1
                sheet(0, 2) -1
                sheet(0, 3) -1
                sheet(0, 4) -1
                sheet(0, 5) -1
                sheet(1, 0) 300              # 1, 4, 16
                sheet(1, 1) -1
                sheet(1, 2) 30
                sheet(1, 3) -1
                sheet(1, 4) 0
                sheet(1, 5) -1
                sheet(2, 0) -1               # 2, 8, 32
                sheet(2, 1) 140
                sheet(2, 2) -1
                sheet(2, 3) 40
                sheet(2, 4) -1
                sheet(2, 5) 214
                sheet(3, 0) -1
                sheet(3, 5) -1
                sheet(4, 0) 300              # all bits
                sheet(4, 5) 214
                sheet(5, 0) 300              # no text: 63
                sheet(5, 1) 140
                sheet(5, 2) 30
                sheet(5, 3) 40
                sheet(5, 4) 0
                sheet(5, 5) 214
                sheet(5, 6) -7
                """);
        EdgeTest.edge("Number what (0 .. 5) of the SHEET of a WEEK; NONE: it isn't shown. BEYOND: no such SHEET; NO.",
                """
                sheet(0, 0) -3
                run(6) 0
                sheet(0, 0) -3
                sheet(0, 6) -3               # BEYOND is ahead of NO
                run(1) 0
                sheet(0, 0) 0
                sheet(0, 5) 999
                sheet(0, 6) -7
                sheet(0, -1) -7
                sheet(0, 2147483647) -7
                sheet(1, 0) -3
                sheet(-1, 0) -3
                sheet(-2147483648, 9) -3
                9 x run(70) 0
                run(62) 0
                count(0) 699
                sheet(98, 4) 5
                sheet(99, 4) -3
                run(1) 0
                sheet(99, 4) 5               # the last one
                sheet(100, 4) -3
                sheet(2147483647, 0) -3
                """);
    }

    private static void sheetSums() {
        EdgeTest.edge("2 SUMS of BILLS that it holds (LIVE ones, not in PLEDGE), and of PLEDGES that are LIVE and hidden"
                + " (made as many DAYS ago as the LAW hide SAYS, or fewer: with 0 those of that DAY), 3 LENT: SUMS of"
                + " the other PLEDGES that are LIVE", PaperTests.FOUR + """
                gold(0, 900) 900
                rate(0) 5
                tape lend 100
                text(0, 99) 0
                tape hide 2
                text(0, 7) 1
                tape hide 0-1
                text(14, 21) 2
                bill(1, 2, 20, 60) 0
                bill(1, 2, 30, 60) 1
                bill(1, 2, 40, 60) 2
                bill(1, 2, 50, 60) 3
                run(3) 0
                help(0, 50) 4                # three days ahead of day 6
                run(1) 0
                help(1, 50) 5                # two days
                run(2) 0
                help(2, 50) 6                # on day 6
                sell(3) 50
                bill(1, 2, 60, 60) 7
                run(1) 0
                sheet(0, 2) 120              # 50, 30, 40
                sheet(0, 3) 20
                run(5) 0
                bill(1, 2, 70, 60) 8
                help(8, 50) 9                # on day 12
                run(1) 0
                bill(1, 2, 71, 60) 10
                help(10, 50) 11              # on day 13
                run(1) 0
                sheet(1, 2) 121              # hide is 0: 50, 71
                sheet(1, 3) 160              # 20, 30, 40, 70
                run(5) 0
                bill(1, 2, 80, 60) 12
                help(12, 50) 13              # on day 19
                run(1) 0
                bill(1, 2, 81, 60) 14
                help(14, 50) 15              # on day 20
                run(1) 0
                sheet(2, 2) 131              # hide is -1, that counts as 0: 50, 81
                sheet(2, 3) 311
                """);
        EdgeTest.edge("2 SUMS of BILLS that it holds", PaperTests.FOUR + """
                gold(0, 900) 900
                gold(1, 50) 50
                bill(1, 2, 50, 8) 0
                bill(1, 2, 60, 60) 1
                bill(1, 2, 70, 60) 2
                promise(1, 2, 80, 60) 3
                sell(0) 50
                sell(2) 70
                run(7) 0
                sheet(0, 2) 120
                sheet(0, 3) 0
                run(7) 0                     # the first was paid on day 8
                sheet(1, 2) 70
                """);
        EdgeTest.edge("(LIVE ones, not in PLEDGE)", PaperTests.FOUR + """
                gold(0, 900) 900
                rate(0) 5
                tape lend 100
                text(0, 99) 0
                bill(1, 2, 50, 6) 0
                sell(0) 50
                bill(1, 3, 60, 30) 1
                sell(1) 60
                bill(1, 4, 70, 30) 2
                help(2, 4) 3
                give(4, 3, 70) 0
                bill(1, 2, 80, 7) 4
                sell(4) 80
                run(7) 2
                of(0, 5) 1
                of(3, 5) 2
                sheet(0, 2) 210              # 60, 80, and 70 that is no pledge any more
                sheet(0, 3) 0
                """);
    }

    private static void reserves() {
        for (String told : new String[] {"10 99 990", "10 100 999", "100 998 998", "100 999 999", "100 1000 999",
            "30 30 100", "30 100 333", "3000 2999 99", "3000 29 0", "3000 30 1"}) {
            String[] due = told.split(" ");
            EdgeTest.edge("5 RESERVE: GOLD times 100 / OUT, 999 at most (OUT 0: 999).", "house(0, 0) 1\ngold(0, " + due[1]
                    + ") " + due[1] + "\ncount(17) 999\ntape lift 1\ntext(0, 9) 0\ngive(0, 1, " + due[0] + ") " + due[1]
                    + "\ncount(17) " + due[2] + "\nrun(7) 0\nsheet(0, 0) " + due[1] + "\nsheet(0, 1) " + due[0]
                    + "\nsheet(0, 5) " + due[2] + "\ntape out reserve\ntext(0, 9) 1\nsays(0, -1) " + due[2] + "\n");
        }
        EdgeTest.edge("(OUT 0: 999)", """
                house(0, 0) 1
                count(17) 999
                run(7) 0
                sheet(0, 5) 999
                tape lift 1
                text(0, 99) 0
                give(0, 1, 10) 0
                count(17) 0
                run(7) 0
                sheet(1, 5) 0
                give(1, 0, 10) 0
                count(17) 999
                """);
    }

    private static void rates() {
        EdgeTest.edge("RATE (0 .. 20; 5 at first): behind the SHEET it becomes what the RULE rate says, 0 at least,"
                + " 20 at most, if one says something.", """
                count(15) 5
                tape rate 21
                text(0, 7) 0
                tape rate 0-1
                text(7, 14) 1
                tape rate 20
                text(14, 21) 2
                tape rate 1
                text(21, 28) 3
                tape rate 99999*99999
                text(28, 35) 4
                tape rate 0
                text(35, 42) 5
                tape rate 19
                text(48, 49) 6
                run(6) 0
                count(15) 5
                run(1) 0
                count(15) 20
                run(7) 0
                count(15) 0
                run(7) 0
                count(15) 20
                run(7) 0
                count(15) 1
                run(7) 0
                count(15) 20                 # 1409865409 by wrapping
                run(7) 0
                count(15) 0
                rate(8) 0
                run(6) 0
                count(15) 8
                run(1) 0
                count(15) 19
                run(7) 0
                count(15) 19                 # none says something
                sheet(0, 4) 5
                sheet(1, 4) 20
                sheet(2, 4) 0
                sheet(7, 4) 19
                """);
        EdgeTest.edge("RATE by hand: the one before. NO: v, or the RULE rate says something now.", """
                rate(-1) -7
                rate(21) -7
                rate(2147483647) -7
                rate(-2147483648) -7
                rate(0) 5
                rate(1) 0
                rate(19) 1
                rate(20) 19
                tape rate 3 if day>0
                text(0, 2) 0
                rate(6) 20                   # its if is 0
                run(1) 0
                rate(7) -7
                rate(21) -7
                count(15) 6
                run(1) 0
                rate(7) 6                    # not in force any more
                tape rate price
                text(2, 3) 1
                rate(7) -7                   # it says what RATE is: that is something
                count(15) 7
                status(-7) 7
                """);
    }

    private static void tradePromises() {
        EdgeTest.edge("A TRADE: its number. BEYOND, KIND: no MERCHANTS; NO: BASE, DAYS, a HOUSE and itself; FULL.",
                LandTests.ONE_DOWN + """
                house(1, 0) 3
                trade(4, 3, 0, 0) -3
                trade(3, 4, 0, 0) -3
                trade(-1, 1, 5, 5) -3
                trade(1, 2147483647, 5, 5) -3
                trade(3, 1, 0, 0) -5
                trade(1, 3, 0, 0) -5
                trade(0, 1, 5, 5) -5
                trade(3, 3, 5, 5) -5         # KIND is ahead of NO
                trade(1, 2, 10000, 5) -7
                trade(1, 2, 5, 61) -7
                trade(2, 2, 5, 5) -7
                trade(1, 2, 5, 5) 0          # that one is down is no reason
                7 x trade(2, 1, 5, 5) 1..
                trade(1, 2, 5, 5) -8
                trade(1, 2, 0, 5) -7
                trade(1, 3, 5, 5) -5
                trade(1, 4, 5, 5) -3
                count(5) 8
                """);
        EdgeTest.edge("A TRADE goes on (1; as at first), or not (0): what it was. BEYOND, NO.", PaperTests.FOUR + """
                goesOn(0, 1) -3
                goesOn(0, 2) -3
                trade(1, 2, 5, 5) 0
                goesOn(0, 2) -7
                goesOn(0, -1) -7
                goesOn(0, 2147483647) -7
                goesOn(0, 1) 1
                goesOn(0, 0) 1
                goesOn(0, 0) 0
                goesOn(0, 1) 0
                goesOn(0, 1) 1
                goesOn(1, 1) -3
                goesOn(-1, 1) -3
                goesOn(2147483647, 9) -3
                7 x trade(1, 2, 5, 5) 1..
                goesOn(7, 0) 1
                goesOn(8, 0) -3
                goesOn(6, 1) 1
                """);
    }

    private static void seasonPromises() {
        EdgeTest.edge("A number of a ROW (which = 0 HARVEST, 1 ABROAD), place 0 .. 51 (v = NONE: a GAP): the one before."
                + " BEYOND (which, place): 0; NO: 0, and status() tells of it.", """
                tell(2, 0, 5) 0
                tell(-1, 0, 5) 0
                tell(0, 52, 5) 0
                tell(0, -1, 5) 0
                tell(1, 2147483647, 5) 0
                tell(2, 0, 201) 0            # BEYOND is ahead of NO
                tell(0, 52, 201) 0
                status(-3) 7
                status(-7) 0
                tell(0, 51, 201) 0
                tell(1, 51, 21) 0
                tell(1, 0, -2) 0
                status(-7) 3
                status(-3) 7
                tell(0, 51, 12) -1
                tell(0, 0, 13) -1
                tell(1, 51, 14) -1
                tell(1, 0, 15) -1
                tell(0, 51, -1) 12
                tell(0, 51, -1) -1
                tell(0, 0, -1) 13
                tell(1, 51, 0) 14
                tell(1, 51, 1) 0
                tell(1, 0, 5) 15
                status(-7) 3
                """);
        EdgeTest.edge("THE ROW's numbers, 52 at most of them, become a ROW's, from place 0 on (others stay); what may not"
                + " stand there is a GAP: how many aren't GAPS. BEYOND, MISSING.", """
                read(2) -3
                read(-1) -3
                read(0) -2
                read(1) -2
                tell(0, 3, 44) -1
                lay(0) 0
                read(0) 0
                week(0, 3) 44
                lay(3) 3
                set(0, 200) 0
                set(1, 201) 0
                set(2, -1) 0
                read(0) 1
                week(0, 0) 200
                week(0, 2) 200               # gaps
                week(0, 3) 44                # it stays
                set(0, 20) 200
                set(1, 21) 201
                set(2, 0) -1
                read(1) 2
                week(1, 0) 20
                week(1, 1) 20
                week(1, 2) 0
                week(1, 51) 0
                read(2) -3
                tear() 1
                read(2) -3                   # BEYOND is ahead of MISSING
                read(1) -2
                """);
        EdgeTest.edge("THE ROW's numbers, 52 at most of them, become a ROW's", """
                lay(60) 60
                set(50, 50) 0
                set(51, 51) 0
                set(52, 52) 0
                set(59, 201) 0
                set(4, -2147483648) 0
                set(5, 2147483647) 0
                read(0) 50
                week(0, 50) 50
                week(0, 51) 51
                week(0, 52) 0                # place 0
                lay(52) 52
                set(51, 20) 0
                set(50, 21) 0
                read(1) 51
                week(1, 51) 20
                week(1, 50) 0
                lay(51) 51
                set(50, 7) 0
                read(1) 51
                week(1, 50) 7
                week(1, 51) 20
                """);
        EdgeTest.edge("HARVEST or ABROAD of a WEEK (0 or more), GAPS filled. BEYOND.", """
                week(2, 0) -3
                week(-1, 0) -3
                week(0, -1) -3
                week(1, -1) -3
                week(1, -2147483648) -3
                week(2, -1) -3
                week(0, 0) 100
                week(1, 100) 5
                week(1, 2147483647) 5
                status(-3) 6
                """);
        EdgeTest.edge("FLOW: the one before. NO.", """
                flow(-1) -7
                flow(101) -7
                flow(0) 0
                flow(100) 0
                flow(1) 100
                flow(1) 1
                status(-7) 2
                """);
    }

    private static void counts() {
        EdgeTest.edge("The open DAY (what = 0), TOWNS (1), HOUSES (2), ROADS (3), PAPERS that aren't free (4),"
                + " TRADES (5), TEXTS (6), bytes of THE TAPE (7), OUT (8), NUMBERS that are IN (9), BURNT (10), what"
                + " was FOUND (11; all of it), REFUSED (12), HOUSES DOWN (13), the DAY on which THE BANK was STOPPED"
                + " (14; NONE), RATE (15), whether the LAW out is LIFTED (16), RESERVE (17). NO.", """
                count(-1) -7
                count(18) -7
                count(2147483647) -7
                count(-2147483648) -7
                status(-7) 4
                2 x town() 1..
                road(0, 1, 1) 1
                3 x house(0, 0) 1..
                gold(0, 30) 30
                give(0, 1, 30) 30
                forge(1, 0) 1
                give(1, 0, 20) 0
                burn(0) 1
                trade(1, 2, 5, 5) 0
                goesOn(0, 0) 1
                tape buy 0
                text(0, 99) 0
                tape lift 0-2
                text(0, 99) 1
                bill(1, 2, 11, 1) 0
                bill(3, 2, 11, 60) 1
                sell(1) 0
                flow(1) 0
                tell(1, 0, 20) -1
                rate(4) 5
                2 x run(7) ?
                feed(7, 3) 3
                count(0) 14
                count(1) 3
                count(2) 4
                count(3) 1
                count(4) 2
                count(5) 1
                count(6) 2
                count(7) 3
                count(8) 10
                count(9) 1
                count(10) 1
                count(11) 1
                count(12) 1
                count(13) 1
                count(14) 13
                count(15) 4
                count(16) 1
                count(17) 0
                """);
    }
}
