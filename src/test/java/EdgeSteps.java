/** One step of a day behind the other, and what has free numbers, other days or other towns ahead of it. */
final class EdgeSteps {
    // Numbers 0 .. 5 are free from DAY 2 on; the merchant 2 has 6 GOLD then, the merchant 1 has none.
    private static final String FREE_AHEAD = PaperTests.FOUR + """
            gold(1, 6) 6
            6 x promise(1, 2, 1, 1) 0..
            """;

    private EdgeSteps() {
    }

    static void all() {
        stepsInOrder();
        freeNumbersAhead();
        pledgesOfLateNumbers();
        laterDays();
        copies();
    }

    private static void stepsInOrder() {
        EdgeTest.edge("(3) PROTESTED BILLS, by numbers, whose name is ASKED on d. (4) SELLING", PaperTests.FOUR + """
                gold(3, 50) 50
                gold(0, 100) 100
                mind(2, 30, 3) 0
                bill(1, 2, 50, 1) 0
                bill(4, 2, 20, 30) 1
                sell(0) 50
                mind(2, 30, 0) 30
                run(2) 1
                of(0, 9) 2
                look(2, 7) 50
                run(1) 0
                of(0, 3) 2                   # it paid as a name
                of(1, 3) 0                   # and sold, below its MIN by that, in the same DAY
                look(2, 7) 20
                """);
        EdgeTest.edge("(4) SELLING: HOUSES 1, 2 .., that are UP: as long as COIN is below MIN", PaperTests.FOUR + """
                gold(0, 100) 100
                gold(2, 50) 50
                mind(2, 20, 0) 0
                bold(2, 0) 9000
                deposit(2, 3, 30) 0
                bill(4, 2, 20, 30) 1
                promise(2, 4, 10, 2) 2
                promise(1, 4, 10, 2) 3
                run(3) 1
                of(1, 3) 0                   # it had 10; the DEPOSIT came back in (5), too late for that
                of(0, 0) -3
                look(2, 7) 60
                """);
        EdgeTest.edge("(6) If d is 6 modulo 7: SHIPS, then the SHEET", """
                town() 1
                road(0, 1, 7) 1
                house(0, 1) 1
                gold(0, 100) 100
                give(0, 1, 50) 100
                bold(1, 9999) 9000
                flow(5) 0
                tell(1, 0, 5) -1
                tell(1, 1, 20) -1
                run(13) 0
                look(0, 2) 100
                look(1, 3) 5                 # the first SHEET is HEARD of on DAY 13
                run(1) 0
                look(1, 3) 0                 # all that are PRESENTED come in, ahead of the ships
                count(9) 5
                look(0, 2) 0                 # 50, less 75
                count(14) 13
                sheet(1, 0) 0
                sheet(1, 1) 0
                """);
    }

    private static void freeNumbersAhead() {
        EdgeTest.edge("the one that is DUE first, of these the first, is SOLD to its BANKER, or refused"
                + " (by THE BANK: it counts as REFUSED).", FREE_AHEAD + """
                gold(0, 9) 9
                bill(4, 1, 30, 20) 6
                run(2) 0
                count(4) 1
                mind(1, 10, 0) 0
                run(1) 0
                count(12) 1                  # THE BANK CAN'T
                gold(0, 91) 100
                run(1) 0                     # it wasn't refused in this (4)
                of(6, 3) 0
                count(12) 1
                look(1, 7) 30
                """);
        EdgeTest.edge("its DEPOSITS that are LIVE are ASKED, by numbers", FREE_AHEAD + """
                gold(2, 5) 5
                bold(2, 0) 9000
                deposit(2, 3, 5) 6
                promise(1, 4, 9, 2) 7
                run(2) 0
                count(4) 2
                run(1) 1
                of(6, 0) -3
                look(2, 2) 11
                """);
        EdgeTest.edge("2 SUMS of BILLS that it holds (LIVE ones, not in PLEDGE)", FREE_AHEAD + """
                gold(0, 100) 100
                bill(4, 2, 40, 30) 6
                bill(4, 2, 20, 30) 7
                sell(6) 40
                tape lend 50
                text(0, 99) 0
                help(7, 20) 8
                run(7) 0
                count(4) 3
                sheet(0, 2) 40
                sheet(0, 3) 10
                look(0, 8) 3
                look(4, 9) 2
                look(2, 9) 1
                """);
        EdgeTest.edge("PAPERS that are LIVE and DUE on d, by numbers", FREE_AHEAD + """
                gold(4, 7) 7
                bill(4, 2, 40, 3) 6
                promise(4, 1, 7, 2) 7
                bill(4, 2, 50, 9) 8
                promise(2, 4, 7, 9) 9
                run(2) 0
                run(1) 0
                count(4) 3
                look(1, 2) 7
                run(1) 1
                of(6, 5) 2
                assets(4) 7                  # what 2 owes it
                gets(6) 3                    # 40 of 90
                gets(8) 3
                run(5) 0
                run(1) 1
                down(2, 1) 9
                of(8, 5) 2
                """);
    }

    private static void pledgesOfLateNumbers() {
        String run = FREE_AHEAD + """
                gold(0, 100) 100
                bill(4, 2, 20, 30) 6
                bill(4, 2, 40, 30) 7
                tape lend 50
                text(0, 99) 0
                help(7, 20) 8
                of(8, 8) 7
                """;
        EdgeTest.edge("(of a PLEDGE the BILL goes back to the DEBTOR, not in PLEDGE)", run + """
                run(20) 0
                of(7, 3) 0
                of(7, 7) 1
                run(1) 0
                of(8, 0) -3
                of(7, 3) 2
                of(7, 7) 0
                """);
        EdgeTest.edge("of a PLEDGE the BILL is THE BANK's (not in PLEDGE any more)", run + """
                promise(2, 1, 99, 5) 9
                run(5) 0
                of(7, 7) 1
                run(1) 1
                of(8, 5) 2
                of(7, 3) 0
                of(7, 7) 0
                of(6, 3) 2
                """);
    }

    private static void laterDays() {
        EdgeTest.edge("SUM less SUM r (DUE less the open DAY) / 36000.", PaperTests.FOUR + """
                gold(0, 5000) 5000
                gold(3, 5000) 5000
                rate(20) 5
                mind(1, 0, 3) 0
                bill(2, 1, 2400, 60) 0
                bill(2, 1, 2400, 60) 1
                run(30) 0
                sell(0) 2358                 # 21: a BANK
                mind(1, 0, 0) 0
                sell(1) 2360                 # 20: THE BANK
                """);
        EdgeTest.edge("DUE behind the open DAY", PaperTests.FOUR + """
                gold(0, 100) 100
                bill(4, 1, 30, 2) 0
                mind(1, 10, 0) 0
                run(1) 0
                of(0, 3) 0
                """);
        EdgeTest.edge("x is FLOW (0 .. 100; 0 at first) times (RATE less ABROAD)", """
                flow(10) 0
                tell(1, 0, 5) -1
                tell(1, 7, 0) -1
                run(55) 0
                look(0, 2) 0
                run(1) 0                     # the last DAY of WEEK 7
                look(0, 2) 50
                """);
        EdgeTest.edge("of a SHEET made in DAY t likewise from TOWN 0 on (without a way never)", """
                2 x town() 1..
                road(0, 1, 5) 1
                5 x house(0, 0) 1..
                house(0, 1) 6
                house(0, 2) 7
                run(11) 0
                knew(1, 1, 5) -1
                knew(1, 1, 6) 0
                knew(6, 1, 10) -1
                knew(6, 1, 11) 0
                knew(7, 1, 11) -1
                """);
    }

    private static void copies() {
        EdgeTest.edge("Each COPY has a TRAIL", NoteTests.FIVE_NOTES + """
                forge(2, 0) 1
                forge(2, 2) 1
                trail(0, 0, 1) 1             # those of the others stay
                trail(1, 0, 1) 1
                trail(2, 0, 1) 1
                trail(3, 0, 1) 1
                trail(4, 0, 1) 1
                trail(4, 0, 2) -3
                trail(0, 1, 0) 2
                trail(0, 1, 1) -3
                trail(2, 1, 0) 2
                """);
        EdgeTest.edge("it PRESENTS all its COPIES (if THE BANK isn't STOPPED).", """
                house(0, 0) 1
                gold(0, 900) 900
                give(0, 1, 700) 900
                bold(1, 9999) 9000
                run(7) 0
                count(9) 0
                run(1) 0
                count(9) 70
                look(1, 2) 700
                look(0, 2) 200
                """);
        EdgeTest.edge("It is ASKED: the DEBTOR GIVES SUM back.", NoteTests.FIVE_NOTES + """
                house(1, 0) 3
                give(1, 2, 20) 0
                deposit(2, 3, 20) 0
                give(3, 1, 10) 0
                forge(3, 1) 1
                ask(0) 1                     # with two of one NUMBER: THE BANK alone finds them
                look(2, 3) 2
                copyAt(1, 0) 2
                copyAt(1, 1) 2
                """);
        EdgeTest.edge("notes: OUT", NoteTests.FIVE_NOTES + """
                give(1, 0, 20) 0
                forge(1, 3) 1
                tape out notes
                text(0, 99) 0
                says(0, -1) 30
                """);
    }
}
