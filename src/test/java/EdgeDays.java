/** Section 5 of the document: the steps of a day, and what is heard; promises 42 and 44. */
final class EdgeDays {
    private EdgeDays() {
    }

    static void all() {
        draws();
        due();
        askedNames();
        selling();
        sellingOrder();
        runs();
        runsInOrder();
        cares();
        endOfWeek();
        heard();
        promises();
    }

    private static void draws() {
        EdgeTest.edge("A DAY d: (1) if d is 0 modulo 7: TRADES by numbers (as below) draw.", PaperTests.FOUR + """
                gold(1, 5) 5
                promise(1, 2, 5, 7) 0
                trade(1, 2, 100, 60) 0
                trade(2, 1, 200, 60) 1
                count(4) 1
                run(1) 0                     # day 0
                count(4) 3
                of(1, 1) 90
                of(1, 2) 1
                of(2, 1) 180
                of(2, 2) 2
                run(6) 0
                count(4) 3                   # not on days 1 to 6
                run(1) 0                     # day 7: drawn ahead of what is due, so not as number 0
                of(0, 0) -3
                of(3, 1) 90
                of(3, 4) 67
                of(4, 1) 180
                run(6) 0
                count(4) 4
                run(1) 0                     # day 14
                of(0, 1) 90
                of(5, 1) 180
                count(4) 6
                """);
        EdgeTest.edge("A DAY d: (1) if d is 0 modulo 7: TRADES by numbers (as below) draw.", PaperTests.FOUR + """
                run(6) 0
                trade(1, 2, 100, 60) 0       # it comes on day 6
                run(1) 0
                count(4) 0
                goesOn(0, 0) 1
                run(1) 0
                count(4) 0
                goesOn(0, 1) 0
                run(6) 0
                count(4) 0
                run(1) 0
                count(4) 1
                """);
    }

    private static void due() {
        EdgeTest.edge("(2) PAPERS that are LIVE and DUE on d, by numbers", PaperTests.FOUR + """
                gold(1, 10) 10
                promise(1, 2, 10, 3) 0
                promise(2, 4, 10, 3) 1
                run(3) 0
                count(4) 2                   # day 2 is closed
                run(1) 0
                count(4) 0                   # 2 gives what it got
                look(4, 2) 10
                promise(1, 4, 10, 3) 0
                promise(4, 1, 10, 3) 1
                run(4) 1                     # 1 has nothing yet
                down(1, 0) 7
                down(1, 1) 0
                of(1, 0) -3
                look(1, 2) 10
                """);
        EdgeTest.edge("(of each PROCEEDS come first, as below)", PaperTests.FOUR + """
                tell(0, 1, 200) -1
                trade(1, 2, 100, 8) 0
                promise(1, 4, 5, 8) 0
                run(1) 0
                of(1, 10) 1
                run(7) 0
                look(1, 7) 0
                run(1) 1                     # number 0 is ahead of the bill and its proceeds
                down(1, 1) 0
                look(1, 2) 0                 # and they come to none that is down
                of(1, 5) 2
                """);
        EdgeTest.edge("(of each PROCEEDS come first, as below)", PaperTests.FOUR + """
                tell(0, 1, 200) -1
                trade(1, 2, 100, 8) 0
                run(1) 0
                of(0, 10) 1
                promise(1, 4, 90, 7) 1
                run(8) 0                     # 180 come, 90 and 90 go
                look(1, 2) 0
                look(2, 2) 90
                look(4, 2) 90
                """);
        EdgeTest.edge("if the HOLDER is the DEBTOR, or the DEBTOR is UP and CAN, and so GIVES SUM to the HOLDER: PAID",
                PaperTests.FOUR + """
                gold(1, 20) 20
                gold(2, 19) 19
                gold(3, 50) 50
                promise(1, 4, 20, 2) 0
                promise(2, 4, 20, 2) 1
                mind(1, 0, 3) 0
                bill(3, 1, 50, 3) 2
                sell(2) 50
                of(2, 3) 3
                promise(3, 4, 1, 2) 3
                run(3) 2                     # 20 is enough, 19 is not
                of(0, 0) -3
                of(1, 5) 2
                look(2, 2) 19
                look(3, 4) 0
                of(2, 5) 0
                run(1) 0
                of(2, 0) -3                  # it owes to itself, and is down: paid
                look(1, 2) 50
                """);
        EdgeTest.edge("PAID (of a PLEDGE the BILL goes back to the DEBTOR, not in PLEDGE).", PaperTests.FOUR + """
                gold(0, 500) 500
                tape lend 50
                text(0, 9) 0
                rate(0) 5
                bill(1, 2, 100, 20) 0
                bill(1, 2, 100, 20) 1
                help(0, 2) 2
                help(1, 3) 3
                give(2, 0, 1) -7
                look(2, 3) 10
                run(2) 0
                of(0, 7) 1
                of(0, 3) 0
                run(1) 0
                of(2, 0) -3
                of(0, 7) 0
                of(0, 3) 2
                of(0, 5) 0
                of(0, 6) 2
                of(1, 7) 1                   # of the other one not yet
                count(9) 5
                give(2, 1, 1) -7
                give(2, 1, 10) 0
                run(1) 1                     # 40 of 50
                of(3, 5) 2
                of(1, 7) 0
                of(1, 3) 0
                look(2, 3) 4
                """);
        EdgeTest.edge("Else the DEBTOR is DOWN (0; if it was UP); a BILL is PROTESTED", PaperTests.FOUR + """
                gold(0, 500) 500
                bill(1, 2, 30, 1) 0
                bill(1, 2, 30, 2) 1
                sell(0) 30
                sell(1) 30
                promise(1, 4, 5, 3) 2
                run(1) 0
                of(0, 5) 0
                run(1) 1
                of(0, 5) 1
                of(1, 5) 0
                of(2, 5) 2                   # dead with its debtor
                run(1) 0                     # down already
                of(1, 5) 1
                down(1, 0) 1
                down(1, 1) 0
                down(1, 2) 0
                down(1, 3) 0
                count(13) 1
                """);
    }

    private static void askedNames() {
        EdgeTest.edge("(3) PROTESTED BILLS, by numbers, whose name is ASKED on d.", PaperTests.FOUR + """
                gold(0, 500) 500
                gold(4, 5) 5
                bill(1, 2, 30, 1) 0
                bill(1, 2, 20, 1) 1
                sell(1) 20
                sell(0) 30
                gold(2, 5) 5
                give(2, 0, 20) 5
                look(2, 7) 35
                promise(4, 2, 5, 3) 2
                run(2) 1
                of(0, 9) 2
                of(1, 9) 2
                run(1) 1                     # by numbers: 30 of 35, then not 20 of 5
                of(0, 3) 2
                of(0, 5) 2
                of(1, 3) 0
                of(1, 5) 2
                down(2, 0) 2
                down(2, 1) 1
                down(2, 3) 1
                look(2, 7) 5
                """);
        EdgeTest.edge("(3) PROTESTED BILLS, by numbers, whose name is ASKED on d.", PaperTests.FOUR + """
                gold(0, 500) 500
                gold(4, 15) 15
                bill(1, 2, 30, 1) 0
                sell(0) 30
                gold(2, 5) 5
                give(2, 0, 20) 5
                look(2, 7) 15
                promise(4, 2, 15, 2) 1       # due on the day on which 2 is asked: that is ahead
                run(2) 1
                run(1) 0
                look(2, 7) 0
                look(2, 4) 1
                of(0, 3) 2
                """);
    }

    private static void selling() {
        EdgeTest.edge("(4) SELLING: HOUSES 1, 2 .., that are UP: as long as COIN is below MIN", PaperTests.FOUR + """
                gold(0, 900) 900
                gold(2, 9) 9
                bill(1, 2, 30, 50) 0
                bill(1, 2, 30, 50) 1
                mind(2, 9, 0) 0
                run(1) 0
                of(0, 3) 2                   # 9 is not below 9
                mind(2, 10, 0) 9
                run(1) 0
                of(0, 3) 0
                of(1, 3) 2
                look(2, 7) 39
                mind(2, 39, 0) 10
                run(1) 0
                of(1, 3) 2
                mind(2, 40, 0) 39
                run(1) 0
                of(1, 3) 0
                look(2, 7) 69
                count(12) 0
                """);
        EdgeTest.edge("as long as COIN is below MIN", PaperTests.FOUR + """
                gold(0, 900) 900
                bill(1, 2, 30, 50) 0
                bill(1, 2, 30, 50) 1
                bill(1, 2, 30, 50) 2
                mind(2, 60, 0) 0
                run(1) 0
                of(1, 3) 0
                of(2, 3) 2                   # 60 is not below 60
                mind(2, 61, 0) 60
                run(1) 0
                of(2, 3) 0
                """);
        EdgeTest.edge("as long as COIN is below MIN, and there is a BILL that it holds, that MAY be SOLD",
                PaperTests.FOUR + """
                gold(0, 900) 900
                mind(2, 9999, 0) 0
                bill(1, 2, 30, 9) 0
                bill(2, 4, 30, 9) 1          # of another holder
                bill(1, 2, 30, 2) 2
                promise(1, 2, 30, 20) 3
                run(1) 0                     # one day sells both
                of(0, 3) 0
                of(1, 3) 4
                of(2, 3) 0
                count(12) 0
                bill(1, 2, 40, 1) 4
                run(1) 0                     # due on the day behind: it may be
                of(4, 3) 0
                """);
        EdgeTest.edge("HOUSES 1, 2 .., that are UP", PaperTests.FOUR + """
                gold(0, 900) 900
                mind(2, 9999, 0) 0
                bill(1, 2, 30, 9) 0
                promise(2, 4, 5, 1) 1
                tape buy day>0
                text(0, 9) 0
                run(1) 0
                count(12) 1                  # refused on day 0
                run(1) 1                     # down in (2) of day 1
                of(0, 3) 2
                count(12) 1
                """);
    }

    private static void sellingOrder() {
        EdgeTest.edge("the one that is DUE first, of these the first, is SOLD to its BANKER, or refused"
                + " (by THE BANK: it counts as REFUSED).", PaperTests.FOUR + """
                gold(0, 900) 900
                bill(1, 2, 31, 9) 0
                bill(1, 2, 32, 8) 1
                bill(1, 2, 33, 8) 2
                bill(1, 2, 34, 10) 3
                mind(2, 30, 0) 0
                run(1) 0
                of(1, 3) 0                   # due first, and of two the first
                of(2, 3) 2
                look(2, 7) 32
                mind(2, 33, 0) 30
                run(1) 0
                of(2, 3) 0
                of(0, 3) 2
                mind(2, 66, 0) 33
                run(1) 0
                of(0, 3) 0
                of(3, 3) 2
                mind(2, 999, 0) 66
                run(1) 0
                of(3, 3) 0
                """);
        EdgeTest.edge("and wasn't refused in this (4)", PaperTests.FOUR + """
                gold(0, 900) 900
                tape buy sum>20
                text(0, 99) 0
                bill(1, 2, 20, 8) 0
                bill(1, 2, 21, 9) 1
                bill(1, 2, 20, 10) 2
                mind(2, 999, 0) 0
                run(1) 0
                of(0, 3) 2
                of(1, 3) 0
                of(2, 3) 2
                count(12) 2                  # each once
                run(1) 0
                count(12) 4                  # and again on the next day
                mind(2, 21, 0) 999
                run(1) 0
                count(12) 4
                sell(0) 0
                sell(0) 0
                count(12) 6                  # a sale by hand is refused likewise
                """);
        EdgeTest.edge("is SOLD to its BANKER, or refused", PaperTests.FOUR + """
                gold(0, 900) 900
                gold(4, 25) 25
                mind(2, 999, 4) 0
                bill(1, 2, 20, 8) 0
                bill(1, 2, 20, 9) 1
                bill(1, 2, 5, 9) 2
                run(1) 0
                of(0, 3) 4
                of(1, 3) 2                   # 5 isn't 20: refused, and counted by none
                of(2, 3) 4
                look(4, 2) 0
                count(12) 0
                """);
        EdgeTest.edge("(4) SELLING: HOUSES 1, 2 ..", """
                house(1, 0) 1
                house(0, 0) 2
                house(1, 0) 3
                house(0, 0) 4
                gold(0, 900) 900
                gold(1, 40) 40
                gold(3, 40) 40
                mind(2, 30, 1) 0
                mind(4, 30, 3) 0
                bill(4, 2, 30, 30) 0
                bill(2, 4, 30, 30) 1
                run(1) 0
                of(0, 3) 1                   # 2 sells to 1, 4 to 3
                of(1, 3) 3
                mind(1, 40, 0) 0
                mind(3, 40, 0) 0
                bill(4, 2, 10, 20) 2
                bill(2, 4, 10, 20) 3
                mind(2, 40, 1) 30
                mind(4, 40, 3) 30
                run(1) 0
                of(0, 3) 0                   # each bank sold, 1 ahead of 2
                of(1, 3) 0
                of(2, 3) 2                   # 1's 40 less 10 would be below its MIN
                of(3, 3) 4
                mind(1, 30, 0) 40
                mind(3, 30, 0) 40
                run(1) 0
                of(2, 3) 1
                of(3, 3) 3
                look(1, 7) 30
                """);
        EdgeTest.edge("(4) SELLING: HOUSES 1, 2 ..", PaperTests.FOUR + """
                gold(0, 900) 900
                gold(3, 40) 40
                mind(2, 30, 3) 0
                mind(3, 10, 0) 0
                bill(1, 2, 30, 30) 0
                promise(3, 4, 5, 1) 1
                run(1) 0
                of(0, 3) 3                   # 10 is left, that is MIN
                run(1) 0
                of(0, 3) 0                   # 5 was due: the bank sells, too
                name(0, 2) 3
                bill(1, 2, 30, 30) 1
                mind(2, 60, 3) 30
                mind(3, 36, 0) 10
                run(1) 0                     # 35 is below 36, but a bank must have MIN
                of(1, 3) 2
                mind(3, 5, 0) 36
                run(1) 0
                of(1, 3) 3
                mind(3, 99, 0) 5
                bill(1, 2, 5, 30) 2
                mind(2, 65, 0) 60
                run(1) 0
                of(2, 3) 0
                of(1, 3) 0                   # the bank's turn is behind that of house 2
                """);
    }

    private static final String RUN_ON_3 = PaperTests.FOUR + """
            house(0, 0) 5
            house(0, 0) 6
            gold(5, 30) 30
            gold(6, 30) 30
            """;

    private static void runs() {
        EdgeTest.edge("(5) RUNS: HOUSES 1, 2 .., that are UP: if it HEARD, by d, of more failures in d and the 29 DAYS"
                + " ahead of it than its BOLD", RUN_ON_3 + """
                deposit(5, 3, 10) 0
                deposit(5, 3, 5) 1
                deposit(6, 3, 10) 2
                bold(5, 1000) 9000
                bold(6, 2000) 9000
                promise(1, 4, 5, 1) 3
                promise(2, 4, 5, 2) 4
                run(2) 1
                of(0, 5) 0                   # one is not more than one
                run(1) 1
                of(0, 0) -3                  # two are
                of(1, 0) -3
                of(2, 0) 2                   # but not more than two
                look(5, 2) 30
                look(6, 2) 20
                """);
        EdgeTest.edge("of more failures in d and the 29 DAYS ahead of it than its BOLD", RUN_ON_3 + """
                bold(5, 0) 9000
                promise(1, 4, 5, 1) 0
                run(2) 1                     # on day 1
                run(28) 0
                deposit(5, 3, 10) 1
                run(1) 0                     # day 30: day 1 is the last of 29 ahead
                of(1, 0) -3
                deposit(5, 3, 10) 1
                knew(5, 0, 30) 1
                knew(5, 0, 31) 0
                run(1) 0                     # day 31
                of(1, 0) 2
                """);
        EdgeTest.edge("of more failures in d and the 29 DAYS ahead of it than its BOLD", """
                town() 1
                town() 2
                road(0, 1, 29) 1
                road(0, 2, 30) 2
                house(0, 0) 1
                house(0, 0) 2
                house(1, 0) 3
                house(0, 1) 4
                house(0, 2) 5
                gold(4, 10) 10
                gold(5, 10) 10
                deposit(4, 3, 10) 0
                deposit(5, 3, 10) 1
                bold(4, 0) 9000
                bold(5, 0) 9000
                promise(1, 2, 5, 1) 2
                run(30) 1
                of(0, 0) 2
                run(1) 0
                of(0, 0) -3                  # on day 30 it hears of day 1
                run(5) 0
                of(1, 0) 2                   # on day 31 it hears of what is too old
                knew(4, 0, 29) 0
                knew(4, 0, 30) 1
                knew(4, 0, 31) 0
                knew(5, 0, 30) 0
                knew(5, 0, 31) 0
                """);
        EdgeTest.edge("BOLD (0 .. 9; 9 at first)", tenThatFall() + """
                bold(12, 8000) 9000
                run(2) 8                     # on day 1
                of(11, 0) 2
                run(1) 1                     # nine: more than eight
                of(11, 0) -3
                of(10, 0) 2                  # but not more than nine
                run(1) 1
                of(10, 0) -3
                """);
        EdgeTest.edge("its DEPOSITS that are LIVE are ASKED, by numbers, each: the DEBTOR GIVES if it CAN (PAID),"
                + " else it is DOWN (2).", RUN_ON_3 + """
                deposit(5, 3, 10) 0
                deposit(6, 3, 9) 1
                deposit(5, 3, 12) 2
                deposit(5, 3, 2) 3
                deposit(5, 4, 6) 4
                give(3, 2, 12) 21
                bold(5, 0) 9000
                promise(1, 4, 5, 1) 5
                run(2) 2
                of(0, 0) -3                  # 10 of 21
                of(2, 5) 2                   # not 12 of 11
                of(3, 5) 2                   # dead, so not asked
                of(1, 5) 2
                of(4, 0) -3                  # the other bank's
                look(5, 7) 16
                look(3, 7) 11
                down(3, 0) 1
                down(3, 1) 2
                down(3, 2) 5
                down(3, 3) 2
                """);
    }

    // Merchants 1 to 8 fall on day 1, 9 on day 2, 10 on day 3; 12 and 13 have deposits 11 and 10 in the bank 11.
    private static String tenThatFall() {
        StringBuilder lines = new StringBuilder("10 x house(0, 0) 1..\nhouse(1, 0) 11\n2 x house(0, 0) 12..\n");
        for (int house = 1; house <= 10; house++) {
            lines.append("promise(").append(house).append(", 11, 5, ").append(Math.max(1, house - 7)).append(") ")
                    .append(house - 1).append('\n');
        }
        return lines.append("gold(12, 9) 9\ngold(13, 9) 9\ndeposit(13, 11, 9) 10\ndeposit(12, 11, 9) 11\n").toString();
    }

    private static void runsInOrder() {
        EdgeTest.edge("(5) RUNS: HOUSES 1, 2 .., that are UP", RUN_ON_3 + """
                house(0, 0) 7
                gold(2, 10) 10
                deposit(2, 4, 10) 0
                deposit(5, 3, 10) 1
                deposit(6, 4, 10) 2
                give(3, 7, 1) 9
                bold(2, 1000) 9000
                bold(5, 0) 9000
                bold(6, 1000) 9000
                promise(1, 7, 5, 1) 3
                run(2) 2                     # 5 hears of 1, and brings down 3; then 6 hears of both
                of(1, 5) 2
                of(2, 0) -3
                of(0, 5) 0                   # 2 had its turn ahead of that
                run(1) 0
                of(0, 0) -3
                """);
        EdgeTest.edge("(5) RUNS: HOUSES 1, 2 .., that are UP", RUN_ON_3 + """
                deposit(5, 3, 10) 0
                bold(5, 0) 9000
                give(5, 4, 20) 0
                promise(5, 4, 5, 1) 1
                run(3) 1                     # it hears of its own failure, but is down
                of(0, 5) 0
                knew(5, 0, 1) 1
                knew(5, 0, 0) 0
                """);
        EdgeTest.edge("(5) RUNS", RUN_ON_3 + """
                gold(0, 100) 100
                give(0, 5, 40) 100
                deposit(5, 3, 20) 0
                bold(5, 999) 9000            # BOLD 0, CARE 999
                run(6) 0
                promise(1, 4, 5, 1) 1
                run(1) 0
                of(0, 0) 2
                look(5, 3) 2
                run(1) 1                     # it asks, then presents what it got, too
                of(0, 0) -3
                look(5, 3) 0
                look(5, 2) 70
                count(9) 4
                """);
    }

    private static void cares() {
        EdgeTest.edge("If the latest SHEET of which it HEARD by d shows a RESERVE below its CARE:"
                + " it PRESENTS all its COPIES (if THE BANK isn't STOPPED).", PaperTests.FOUR + """
                gold(0, 100) 100
                give(0, 1, 30) 100
                give(0, 2, 20) 100
                forge(2, 3) 1
                bold(1, 9200) 9000
                bold(2, 9201) 9000
                run(7) 0
                sheet(0, 5) 200
                look(2, 3) 3                 # on day 6 there is no sheet yet
                run(1) 0
                look(1, 3) 3                 # 200 is not below 200
                look(2, 3) 0
                look(2, 2) 20
                count(11) 1                  # the forged one was found
                found(0, 2) 7
                count(17) 266
                run(7) 0
                sheet(1, 5) 266
                look(1, 3) 3
                """);
        EdgeTest.edge("If the latest SHEET of which it HEARD by d shows a RESERVE below its CARE", """
                town() 1
                town() 2
                road(0, 1, 3) 1
                house(0, 0) 1
                house(0, 1) 2
                house(0, 2) 3
                gold(0, 100) 100
                give(0, 1, 50) 100
                give(0, 2, 30) 100
                give(0, 3, 20) 100
                bold(1, 9100) 9000
                bold(2, 9101) 9000
                bold(3, 9101) 9000
                run(7) 0
                sheet(0, 5) 100
                run(2) 0
                look(2, 3) 3                 # on day 8 it hasn't heard
                run(1) 0
                look(2, 3) 0                 # 6, and 3 from TOWN 0
                look(1, 3) 5
                give(1, 2, 20) 0
                gold(0, 200) 270
                run(4) 0
                look(2, 3) 0                 # the sheet of week 0 is the latest that it heard of
                give(1, 2, 10) 0
                sheet(1, 5) 500
                run(2) 0
                look(2, 3) 0                 # still so on days 14 and 15
                give(1, 2, 10) 0
                run(9) 0
                look(2, 3) 1                 # 500 from day 16 on
                look(3, 3) 2                 # without a way none is heard of
                """);
        EdgeTest.edge("shows a RESERVE below its CARE", PaperTests.FOUR + """
                tape lift 1
                text(0, 99) 0
                gold(0, 10) 10
                give(0, 1, 50) 10
                give(0, 2, 10) 10
                bold(1, 9000) 9000
                bold(2, 9001) 9000
                present(2, 1) 1
                count(17) 0
                give(0, 2, 20) 0
                run(8) 0
                sheet(0, 5) 0
                look(1, 3) 5                 # 0 is not below 0
                look(2, 3) 2                 # below 1: but nothing can be got
                count(14) 7
                gold(0, 900) 900
                run(9) 0
                look(2, 3) 2                 # stopped: nothing is ever presented
                """);
        EdgeTest.edge("(if THE BANK isn't STOPPED)", PaperTests.FOUR + """
                gold(0, 29) 29
                tape lift 1
                text(0, 99) 0
                give(0, 1, 40) 29
                give(0, 2, 10) 29
                forge(2, 4) 1
                bold(1, 999) 9000
                bold(2, 999) 9000
                run(8) 0
                count(14) 7
                look(1, 3) 2                 # 9 were too few for the third
                look(2, 3) 2                 # 2 doesn't present any more: nothing is found
                count(11) 0
                run(9) 0
                count(11) 0
                """);
        EdgeTest.edge("shows a RESERVE below its CARE", PaperTests.FOUR + """
                tape show 31
                text(0, 99) 0
                gold(0, 100) 100
                give(0, 1, 100) 100
                bold(1, 9999) 9000
                run(20) 0
                sheet(0, 5) -1
                look(1, 3) 10                # not shown
                tape show 32
                text(20, 99) 1
                run(1) 0
                look(1, 3) 10                # on day 20
                sheet(2, 5) 100
                run(1) 0
                look(1, 3) 0
                """);
        EdgeTest.edge("If the latest SHEET", PaperTests.FOUR + """
                gold(0, 50) 50
                give(0, 1, 50) 50
                run(7) 0
                gold(0, 50) 100
                tape show 31
                text(13, 14) 0
                run(7) 0
                sheet(0, 5) 100
                sheet(1, 5) -1
                bold(1, 9999) 9000
                run(6) 0
                look(1, 3) 5                 # the latest shows none, though the one ahead did
                run(2) 0
                look(1, 3) 0
                """);
    }

    private static void endOfWeek() {
        EdgeTest.edge("(6) If d is 6 modulo 7: SHIPS, then the SHEET, then the RATE (as below). Then d + 1 is open.",
                PaperTests.FOUR + """
                flow(10) 0
                tell(1, 0, 0) -1
                tape rate gold/10+2
                text(0, 99) 0
                run(6) 0
                look(0, 2) 0
                sheet(0, 0) -3
                count(15) 5
                run(1) 0
                count(0) 7
                look(0, 2) 50                # at the RATE 5
                sheet(0, 0) 50               # the ships are ahead of the sheet
                sheet(0, 4) 5
                count(15) 7                  # the rule is asked behind the ships
                run(6) 0
                look(0, 2) 50
                sheet(1, 0) -3
                run(1) 0
                look(0, 2) 120
                sheet(1, 0) 120
                sheet(1, 4) 7
                count(15) 14
                """);
        EdgeTest.edge("Then d + 1 is open.", """
                tape rate day
                text(0, 99) 0
                run(7) 0
                count(15) 6                  # the day that is closed is asked
                says(1, -1) 7
                count(0) 7
                tape rate week
                text(13, 14) 1
                run(7) 0
                count(15) 1
                says(1, -1) 14
                """);
    }

    private static void heard() {
        EdgeTest.edge("HEARD: of a failure in DAY t of a HOUSE in TOWN A from DAY t and FAR of A on", """
                town() 1
                town() 2
                town() 3
                road(0, 1, 2) 1
                road(1, 2, 3) 2
                house(0, 1) 1
                house(0, 1) 2
                house(0, 2) 3
                house(0, 3) 4
                promise(1, 2, 5, 4) 0
                run(40) 1
                knew(2, 0, 3) 0
                knew(2, 0, 4) 1              # in the same town: on the same day
                knew(2, 0, 33) 1
                knew(2, 0, 34) 0
                knew(0, 0, 5) 0
                knew(0, 0, 6) 1
                knew(0, 0, 33) 1
                knew(0, 0, 34) 0
                knew(3, 0, 6) 0
                knew(3, 0, 7) 1              # from town 1, not from TOWN 0
                knew(4, 0, 33) 0             # without a way never
                """);
        EdgeTest.edge("of a SHEET made in DAY t likewise from TOWN 0 on (without a way never).", """
                town() 1
                town() 2
                road(0, 1, 8) 1
                house(0, 1) 1
                house(0, 2) 2
                run(21) 0
                knew(0, 1, 5) -1
                knew(0, 1, 6) 0
                knew(0, 1, 12) 0
                knew(0, 1, 13) 1
                knew(0, 1, 20) 2
                knew(0, 1, 21) 2
                knew(1, 1, 13) -1
                knew(1, 1, 14) 0
                knew(1, 1, 20) 0
                knew(1, 1, 21) 1             # 13 and 8
                knew(2, 1, 21) -1
                knew(1, 2, 13) -1
                knew(1, 2, 14) 999
                knew(2, 2, 21) -1
                """);
    }

    private static void promises() {
        EdgeTest.edge("n DAYS (1 .. 70) go by: how many HOUSES became DOWN. BELOW, NO; FULL: beyond 700.",
                PaperTests.FOUR + """
                run(-1) -4
                run(-2147483648) -4
                run(0) -7
                run(71) -7
                run(2147483647) -7
                count(0) 0
                promise(1, 2, 5, 1) 0
                promise(2, 1, 5, 2) 1
                promise(3, 1, 5, 3) 2
                run(1) 0
                count(0) 1
                run(2) 2
                run(1) 1
                run(70) 0
                count(0) 74
                8 x run(70) 0
                run(67) -8
                run(66) 0
                run(71) -7                   # NO is ahead of FULL
                run(-1) -4
                run(1) -8
                count(0) 700
                status(-8) 2
                status(-4) 3
                status(-7) 4
                """);
        EdgeTest.edge("What a HOUSE had HEARD by a DAY (0 .. the open one): how many failures in it and the 29 DAYS ahead"
                + " (what = 0), the WEEK of the latest SHEET (1; NONE), its RESERVE (2; NONE: none HEARD of, or not"
                + " shown). BEYOND: HOUSE, DAY; NO.", LandTests.ONE_DOWN + """
                knew(2, 0, 0) 0
                knew(2, 0, 1) 1
                knew(2, 0, 2) 1              # the open day
                knew(2, 0, 3) -3
                knew(2, 0, -1) -3
                knew(2, 0, 2147483647) -3
                knew(2, 0, -2147483648) -3
                knew(3, 0, 0) -3
                knew(-1, 3, 0) -3
                knew(2, 3, 3) -3             # BEYOND is ahead of NO
                knew(2, 3, 2) -7
                knew(2, -1, 2) -7
                knew(1, 0, 2) 1              # one that is down hears, too
                knew(0, 0, 2) 1
                knew(2, 1, 2) -1
                knew(2, 2, 2) -1
                run(4) 0
                knew(2, 1, 6) -1             # day 6 is open: its sheet isn't made
                run(1) 0
                knew(2, 1, 6) 0
                knew(2, 2, 6) 999
                knew(2, 1, 5) -1
                knew(2, 2, 5) -1
                tape show 31
                text(13, 14) 0
                run(7) 0
                knew(2, 1, 13) 1
                knew(2, 2, 13) -1            # not shown
                knew(2, 2, 12) 999
                status(-3) 7
                status(-7) 2
                """);
    }
}
