/** Section 6 of the document: what an E comes to, what the KEYS say, which BILL is at hand; promises 40 and 41. */
final class EdgeSays {
    private EdgeSays() {
    }

    static void all() {
        wrapping();
        truths();
        quotients();
        names();
        namesOfBills();
        billAtHand();
        keys();
        without();
        lifted();
        promises();
    }

    private static void means(String sentence, String e, int value) {
        EdgeTexts.means(sentence, e, value);
    }

    private static void wrapping() {
        String sentence = "An E is an int (32 bits, wrapping)";
        means(sentence, "99999*99999", 1409865409);
        means(sentence, "46340*46340", 2147395600);
        means(sentence, "46341*46341", -2147479015);
        means(sentence, "32767*65536+65535", Integer.MAX_VALUE);
        means(sentence, "32767*65536+65536", Integer.MIN_VALUE);
        means(sentence, "32768*65536", Integer.MIN_VALUE);
        means(sentence, "-(32768*65536)", Integer.MIN_VALUE);
        means(sentence, "32768*65536-1", Integer.MAX_VALUE);
        means(sentence, "32768*65536/-1", Integer.MIN_VALUE);
        means(sentence, "32768*65536%-1", 0);
        means(sentence, "65536*65536", 0);
        means(sentence, "65536*65536*99999", 0);
        means(sentence, "32768*65536<0", 1);
        means(sentence, "32768*65536=-(32768*65536)", 1);
        means(sentence, "0-99999-99999", -199998);
    }

    private static void truths() {
        String sentence = "or, and, not, =, <, > are 1 or 0 (what is not 0 is true), both sides are always worked";
        String[] ones = {"5 or 7", "5 and 7", "-1 or 0", "0 or 9", "-1 and 2", "not 0", "3=3", "3<4", "5>4", "-1<0",
            "-1>-2", "0=-0", "0 or not 0", "4 or 1/0", "1/0 or 4", "not 1/0", "32768*65536 or 0", "32768*65536 and 1"};
        String[] zeros = {"0 or 0", "0 and 5", "5 and 0", "0 and 0", "not 5", "not -1", "3=4", "4<4", "5<4", "4>4",
            "4>5", "0>0", "1=-1", "0 and 1/0", "1/0 and 0", "not not 0", "not (32768*65536)"};
        for (String e : ones) {
            means(sentence, e, 1);
        }
        for (String e : zeros) {
            means(sentence, e, 0);
        }
    }

    private static void quotients() {
        String sentence = "/ and % (cut towards 0) by 0 are 0.";
        String[] told = {"7/0 0", "7%0 0", "0/0 0", "0%0 0", "-7/0 0", "-7%0 0", "7/2 3", "7%2 1", "-7/2 -3", "-7%2 -1",
            "7/-2 -3", "7%-2 1", "-7/-2 3", "-7%-2 -1", "1/2 0", "-1/2 0", "6/3 2", "6%3 0", "6/(3-3) 0", "6%(3-3) 0",
            "7/1 7", "7%1 0", "7/-1 -7"};
        for (String line : told) {
            String[] due = line.split(" ");
            means(sentence, due[0], Integer.parseInt(due[1]));
        }
    }

    private static void names() {
        String sentence = "gold: THE BANK's GOLD; notes: OUT; reserve: RESERVE; week, day: the open ones; price: RATE";
        String[] told = {"gold 300", "notes 20", "reserve 999", "week 1", "day 9", "price 5", "sum 0", "days 0",
            "names 0", "town 0", "gold+notes*2+day 349"};
        for (String line : told) {
            String[] due = line.split(" ");
            means(sentence, due[0], Integer.parseInt(due[1]));
        }
        EdgeTest.edge(sentence, """
                house(0, 0) 1
                tape out gold
                text(0, 99) 0
                tape hide notes
                text(0, 99) 1
                tape show reserve
                text(0, 99) 2
                tape lift week
                text(0, 99) 3
                tape buy day
                text(0, 99) 4
                tape lend price
                text(0, 99) 5
                says(0, -1) 0
                gold(0, 45) 45
                says(0, -1) 45
                says(4, -1) 0
                says(5, -1) 999
                give(0, 1, 20) 45
                says(4, -1) 20
                says(5, -1) 225
                run(6) 0
                says(6, -1) 0
                says(2, -1) 6
                run(1) 0
                says(6, -1) 1
                says(2, -1) 7
                says(3, -1) 5
                rate(0) 5
                says(3, -1) 0
                rate(20) 0
                says(3, -1) 20
                """);
    }

    private static void namesOfBills() {
        EdgeTest.edge("of a BILL (for buy, lend; else 0): sum, days (to DUE), names (how many), town (of its DEBTOR).",
                """
                town() 1
                town() 2
                house(0, 1) 1
                house(0, 2) 2
                house(1, 0) 3
                gold(0, 900) 900
                gold(3, 100) 100
                mind(2, 0, 3) 0
                tape buy sum
                text(0, 99) 0
                tape lend days
                text(0, 99) 1
                tape hide names
                text(0, 99) 2
                tape show town
                text(0, 99) 3
                bill(1, 2, 70, 20) 0
                bill(2, 1, 60, 1) 1
                says(2, 0) 70
                says(2, 1) 60
                says(2, -1) 0
                says(3, 0) 20
                says(3, 1) 1
                says(3, -1) 0
                says(4, 0) 2
                says(4, 1) 2
                says(4, -1) 0
                says(5, 0) 1                 # of its debtor
                says(5, 1) 2
                says(5, -1) 0
                sell(0) 70
                says(5, 0) 1
                says(4, 0) 2
                sell(0) 70
                says(4, 0) 3
                give(2, 3, 11) 59
                run(2) 1
                says(3, 0) 18
                says(3, 1) -1                # it was due yesterday
                says(4, 1) 1                 # dead, and its debtor alone
                says(2, 1) 60
                """);
    }

    private static void billAtHand() {
        String sentence = "says() and why() take the BILL that they are told, whatever the KEY is; where the simulation"
                + " itself asks, a BILL is at hand for buy and lend alone, and else these four are 0.";
        EdgeTest.edge(sentence, PaperTests.FOUR + """
                gold(0, 900) 900
                tape out sum*100
                text(0, 99) 0
                bill(1, 2, 50, 20) 0
                says(0, 0) 5000
                says(0, -1) 0
                give(0, 1, 10) -7            # the law says 0
                sell(0) 0                    # there, too, out is asked without a BILL
                count(12) 1
                bill(1, 2, 9, 20) 1
                sell(1) 9                    # none is issued
                tape lift sum
                text(0, 99) 1
                says(6, 0) 50
                count(16) 0
                sell(0) 0
                tape lift 1-names
                text(0, 99) 2
                says(6, 0) -1
                says(6, -1) 1
                count(16) 1
                sell(0) 50
                """);
        EdgeTest.edge(sentence, PaperTests.FOUR + """
                gold(0, 500) 500
                60 x bill(1, 2, 5, 60) ?     # a BILL of each number
                tape lift sum
                text(0, 99) 0
                count(16) 0
                tape out 10+sum+days+names+town
                text(0, 99) 1
                give(0, 1, 20) -7
                give(0, 1, 10) 500
                tape rate 3 if names
                text(0, 99) 2
                rate(9) 5                    # it says nothing now
                tape show 63*sum+48
                text(0, 99) 3
                tape out days
                text(8, 99) 4
                run(7) 0
                count(15) 9
                sheet(0, 0) -1
                sheet(0, 4) 9
                sheet(0, 5) 999
                run(1) 0
                give(0, 1, 10) -7
                says(0, 59) 52
                says(1, 59) 3
                says(6, 59) 5
                """);
        EdgeTest.edge("says() and why() take the BILL that they are told, whatever the KEY is", PaperTests.FOUR + """
                4 x promise(1, 2, 7, 9) 0..
                bill(1, 2, 5, 9) 4
                bill(1, 2, 6, 9) 5
                bill(1, 2, 7, 9) 6
                bill(1, 2, 8, 9) 7
                tape rate sum if sum=7
                text(0, 99) 0
                says(1, 6) 7
                why(1, 6) 0
                status(-2) 0
                says(1, 5) 0
                says(1, 7) 0
                says(1, 4) 0
                says(1, -1) 0
                status(-2) 4
                why(1, 5) -1
                why(1, 7) -1
                status(-2) 4
                """);
        EdgeTest.edge(sentence, PaperTests.FOUR + """
                gold(0, 900) 900
                rate(0) 5
                tape buy 1 if sum=50 or names=0
                text(0, 99) 0
                tape buy 0 if sum=51
                text(0, 99) 1
                tape lend sum if days>9
                text(0, 99) 2
                bill(1, 2, 50, 20) 0
                bill(1, 2, 51, 20) 1
                bill(1, 2, 52, 20) 2
                bill(1, 2, 53, 9) 3
                why(2, 0) 0
                why(2, 1) 1
                why(2, 2) -1
                why(2, -1) 0
                why(3, 0) 2
                why(3, 3) -1
                why(3, -1) -1
                help(3, 5) -7                # lend is 0
                help(2, 5) 4
                of(4, 1) 27                  # 52 * 52 / 100
                sell(1) 0
                sell(0) 50
                mind(2, 999, 0) 0
                run(1) 0
                of(1, 3) 2
                of(3, 3) 0
                count(12) 2
                """);
        EdgeTest.edge(sentence, PaperTests.FOUR + """
                gold(0, 900) 900
                rate(0) 5
                tape lend 100
                text(0, 99) 0
                tape hide sum+1
                text(0, 99) 1
                tape show 63-names*63
                text(0, 99) 2
                tape rate 3+days
                text(0, 99) 3
                bill(1, 2, 50, 60) 0
                bill(1, 2, 60, 60) 1
                run(4) 0
                help(0, 40) 2                # two days ahead of the sheet
                run(1) 0
                help(1, 40) 3                # one day
                run(2) 0
                says(4, 0) 51
                sheet(0, 2) 60
                sheet(0, 3) 50
                sheet(0, 4) 0
                count(15) 3
                says(1, 0) 56
                says(5, 0) -63
                """);
    }

    private static void keys() {
        String sentence = "A KEY SAYS: of TEXTS with it that are in force, whose if is not 0 (or that have none),"
                + " the one of the greatest number: its E.";
        EdgeTest.edge(sentence, """
                tape hide 1
                text(0, 99) 0
                tape hide 2 if gold>9
                text(0, 99) 1
                tape show 3
                text(0, 99) 2
                tape hide 4
                text(2, 3) 3
                tape hide 5 if 0-(gold>19)
                text(1, 4) 4
                tape hide 6 if 0
                text(0, 99) 5
                says(4, -1) 1
                why(4, -1) 0
                gold(0, 9) 9
                says(4, -1) 1
                gold(0, 1) 10
                says(4, -1) 2
                why(4, -1) 1
                gold(0, 10) 20
                says(4, -1) 2                # not in force yet
                run(1) 0
                says(4, -1) 5                # -1 is not 0
                why(4, -1) 4
                run(1) 0
                says(4, -1) 5                # the greatest number
                run(1) 0
                says(4, -1) 5
                run(1) 0
                says(4, -1) 2
                why(4, -1) 1
                says(5, -1) 3
                why(5, -1) 2
                """);
        EdgeTest.edge(sentence, """
                tape rate 8 if week=1
                text(0, 99) 0
                run(7) 0
                count(15) 5                  # on day 6 it was the WEEK 0
                why(1, -1) 0
                run(7) 0
                count(15) 8
                why(1, -1) -1
                rate(2) 8
                run(7) 0
                count(15) 2
                """);
    }

    private static void without() {
        String sentence = "Without one: out: gold; rate: nothing; buy 1, lend 0, hide 0, show 63, lift 0.";
        EdgeTest.edge(sentence, """
                says(0, -1) 0
                gold(0, 77) 77
                says(0, -1) 77
                says(1, -1) 0
                status(-2) 1
                says(2, -1) 1
                says(3, -1) 0
                says(4, -1) 0
                says(5, -1) 63
                says(6, -1) 0
                why(0, -1) -1
                why(1, -1) -1
                why(2, -1) -1
                why(3, -1) -1
                why(4, -1) -1
                why(5, -1) -1
                why(6, -1) -1
                status(-2) 1                 # none of these is refused
                """);
        StringBuilder silent = new StringBuilder("gold(0, 77) 77\n");
        for (String key : "out rate buy lend hide show lift".split(" ")) {
            silent.append("tape ").append(key).append(" 9 if day>0\ntext(0, 2) ?\n");
        }
        EdgeTest.edge(sentence, silent + """
                says(0, -1) 77
                says(1, -1) 0
                says(2, -1) 1
                says(3, -1) 0
                says(4, -1) 0
                says(5, -1) 63
                says(6, -1) 0
                run(1) 0
                says(0, -1) 9
                says(1, -1) 9
                says(2, -1) 9
                says(3, -1) 9
                says(4, -1) 9
                says(5, -1) 9
                says(6, -1) 9
                why(0, -1) 0
                why(6, -1) 6
                run(1) 0
                says(0, -1) 77
                says(1, -1) 0
                says(5, -1) 63
                status(-2) 2
                """);
    }

    private static void lifted() {
        EdgeTest.edge("The LAW out is LIFTED, as long as lift SAYS what is not 0.", """
                house(0, 0) 1
                tape lift 1
                text(1, 2) 0
                tape lift 0-1
                text(3, 4) 1
                tape lift 0
                text(4, 5) 2
                count(16) 0
                give(0, 1, 10) -7
                run(1) 0
                count(16) 1
                give(0, 1, 10) 0
                run(1) 0
                count(16) 0
                give(0, 1, 10) -7
                run(1) 0
                count(16) 1
                give(0, 1, 10) 0
                run(1) 0
                count(16) 0
                give(0, 1, 10) -7
                count(8) 20
                """);
    }

    private static void promises() {
        EdgeTest.edge("What a KEY (0 out, 1 rate, 2 buy, 3 lend, 4 hide, 5 show, 6 lift) SAYS now, of a BILL (NONE: of"
                + " none): as it is (lend, hide not held to their bounds). BEYOND (KEY, PAPER): 0; KIND: no BILL: 0;"
                + " MISSING: rate says nothing: 0, and status() tells of it.", PaperTests.FOUR + """
                gold(1, 9) 9
                promise(1, 2, 5, 9) 0
                deposit(1, 3, 5) 1
                bill(1, 2, 5, 9) 2
                says(-1, -1) 0
                says(7, -1) 0
                says(2147483647, 0) 0
                says(7, 9) 0
                says(2, -2) 0
                says(2, 3) 0
                says(2, 59) 0
                says(2, 60) 0
                says(1, 3) 0                 # BEYOND is ahead of MISSING
                status(-3) 9
                says(2, 0) 0
                says(2, 1) 0
                says(1, 0) 0                 # KIND is ahead of MISSING
                status(-5) 3
                says(1, -1) 0
                says(1, 2) 0
                status(-2) 2
                says(2, 2) 1
                says(6, 2) 0
                tape rate 99
                text(0, 99) 0
                tape lend 150
                text(0, 99) 1
                tape hide 0-5
                text(0, 99) 2
                tape out 0-7
                text(0, 99) 3
                says(1, -1) 99
                says(1, 2) 99
                says(3, 2) 150
                says(4, -1) -5
                says(0, -1) -7
                tape lend 0-1
                text(0, 99) 4
                says(3, -1) -1
                status(-2) 2
                status(-3) 9
                status(-7) 0
                """);
        EdgeTest.edge("Which TEXT says it; NONE: none. BEYOND, KIND (as answers) where says() tells of them.",
                PaperTests.FOUR + """
                promise(1, 2, 5, 9) 0
                bill(1, 2, 5, 9) 1
                why(-1, -1) -3
                why(7, -1) -3
                why(7, 0) -3
                why(0, -2) -3
                why(0, 2) -3
                why(0, 60) -3
                why(0, 0) -5
                why(1, 0) -5
                why(1, -1) -1                # no MISSING here
                why(1, 1) -1
                why(0, 1) -1
                status(-3) 6
                status(-5) 2
                status(-2) 0
                tape lift 0
                text(0, 9) 0
                why(6, -1) 0                 # it says 0, but says it
                why(6, 1) 0
                why(5, -1) -1
                """);
    }
}
