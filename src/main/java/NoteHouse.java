/**
 * A house of issue whose notes are a land's money. What each call answers is promised, by number,
 * in the document; README.md tells which class inside does what.
 */
public final class NoteHouse {
    public static final int NONE = -1;
    public static final int MISSING = -2;
    public static final int BEYOND = -3;
    public static final int BELOW = -4;
    public static final int KIND = -5;
    public static final int COPY = -6;
    public static final int NO = -7;
    public static final int FULL = -8;

    private static final int DAYS = 700;
    private static final int WEEK_DAYS = 7;
    private static final int SHEETS = 100;
    private static final int SHEET_NUMBERS = 6;
    private static final int SHEET_RESERVE = 5;
    private static final int RESERVE_MOST = 999;
    private static final int TRY_WEEKS = 4;
    private static final int RATE_MOST = 20;
    private static final int RATE_BITS = 5;
    private static final int SUM_MOST = 9999;
    private static final int DAYS_MOST = 60;
    private static final int NOTE = 10;

    private static final int TOWNS = 8;
    private static final int ROADS = 16;
    private static final int ROAD_DAYS = 30;

    private static final int HOUSES = 16;
    private static final int THE_BANK = 0;
    private static final int MERCHANT_KIND = 0;
    private static final int BANK_KIND = 1;
    private static final int THE_BANK_KIND = 2;
    private static final int CARES = 1000;
    private static final int HEARD_DAYS = 29;

    private static final int NUMBERS = 300;
    private static final int COPIES = 400;
    private static final int TRAIL = 8;
    private static final int FOUND = 60;
    private static final int NEW_NUMBER = 0;
    private static final int OUT_NUMBER = 1;
    private static final int IN_NUMBER = 2;
    private static final int BURNT_NUMBER = 3;

    private static final int PAPERS = 60;
    private static final int NAMES = 6;
    private static final int PROMISE = 0;
    private static final int BILL = 1;
    private static final int DEPOSIT = 2;
    private static final int PLEDGE = 3;
    private static final int LIVE = 0;
    private static final int PROTESTED = 1;
    private static final int DEAD = 2;
    private static final int BY_DUE = 0;
    private static final int BY_NAME = 1;
    private static final int BY_ASKING = 2;

    private static final int TRADES = 8;
    private static final int HARVEST = 0;
    private static final int ABROAD = 1;
    private static final int YEAR = 52;

    private static final int TEXTS = 12;
    private static final int TEXT_DAYS = 1000;
    private static final int TAPE = 120;
    private static final int LAW_OUT = 0;
    private static final int LAW_RATE = 1;
    private static final int LAW_BUY = 2;
    private static final int LAW_LEND = 3;
    private static final int LAW_HIDE = 4;
    private static final int LAW_SHOW = 5;
    private static final int LAW_LIFT = 6;

    private static final int ROW = 60;
    private static final int WEEK_NUMBERS = 4;

    private final Records records = new Records();
    private final Texts texts = new Texts();
    private final World world = new World(records, texts);
    private final World kept = new World(records, texts);
    private final World[] starts = new World[TRY_WEEKS];
    private final Claims claims = new Claims();
    private final Reader tape = new Reader();
    private final int[] row = new int[ROW];
    private final int[] tried = new int[TRY_WEEKS * WEEK_NUMBERS];
    private final int[] refusals = new int[MISSING - FULL + 1];
    private int rowSize = NONE;
    private boolean isKept;

    public NoteHouse() {
        for (int i = 0; i < starts.length; i++) {
            starts[i] = new World(records, texts);
        }
    }

    // ---- the land

    public int town() {
        Land land = world.land;
        if (land.towns >= TOWNS) {
            return refuse(FULL);
        }
        land.towns++;
        return land.towns - 1;
    }

    public int road(int a, int b, int days) {
        Land land = world.land;
        if (!land.isTown(a) || !land.isTown(b)) {
            return refuse(BEYOND);
        }
        if (a == b || days < 1 || days > ROAD_DAYS) {
            return refuse(NO);
        }
        if (land.roads >= ROADS) {
            return refuse(FULL);
        }
        land.addRoad(a, b, days);
        return land.roads;
    }

    public int far(int a, int b) {
        if (!world.land.isTown(a) || !world.land.isTown(b)) {
            return refuse(BEYOND);
        }
        return world.land.between(a, b);
    }

    public int house(int kind, int town) {
        if (!world.land.isTown(town)) {
            return refuse(BEYOND);
        }
        if (kind != MERCHANT_KIND && kind != BANK_KIND) {
            return refuse(KIND);
        }
        if (world.houses.size >= HOUSES) {
            return refuse(FULL);
        }
        return world.houses.addHouse(kind, town);
    }

    public int gold(int house, int v) {
        if (!world.houses.isHouse(house)) {
            return refuse(BEYOND);
        }
        if (v < 0 || v > 10000 || !world.houses.isUp(house)) {
            return refuse(NO);
        }
        world.houses.gold[house] += v;
        return world.houses.gold[house];
    }

    public int mind(int house, int min, int banker) {
        Houses houses = world.houses;
        if (!houses.isHouse(house) || !houses.isHouse(banker)) {
            return refuse(BEYOND);
        }
        if (house == THE_BANK || houses.kind[banker] <= houses.kind[house]) {
            return refuse(KIND);
        }
        if (min < 0 || min > SUM_MOST) {
            return refuse(NO);
        }
        int before = houses.min[house];
        houses.min[house] = min;
        houses.banker[house] = banker;
        return before;
    }

    public int bold(int house, int told) {
        Houses houses = world.houses;
        if (!houses.isHouse(house)) {
            return refuse(BEYOND);
        }
        if (house == THE_BANK) {
            return refuse(KIND);
        }
        if (told < 0 || told >= 10 * CARES) {
            return refuse(NO);
        }
        int before = CARES * houses.bold[house] + houses.care[house];
        houses.bold[house] = told / CARES;
        houses.care[house] = told % CARES;
        return before;
    }

    public int look(int house, int what) {
        Houses houses = world.houses;
        if (!houses.isHouse(house)) {
            return refuse(BEYOND);
        }
        switch (what) {
            case 0: return houses.kind[house];
            case 1: return houses.town[house];
            case 2: return houses.gold[house];
            case 3: return world.notes.held[house];
            case 4: return houses.isUp(house) ? 1 : 0;
            case 5: return houses.min[house];
            case 6: return houses.banker[house];
            case 7: return world.coin(house);
            case 8: return world.papers.heldBy(house);
            case 9: return world.papers.owedBy(house);
            default: return refuse(NO);
        }
    }

    public int down(int house, int what) {
        Houses houses = world.houses;
        if (!houses.isHouse(house)) {
            return refuse(BEYOND);
        }
        if (houses.isUp(house)) {
            return refuse(MISSING);
        }
        switch (what) {
            case 0: return houses.downDay[house];
            case 1: return houses.downPaper[house];
            case 2: return houses.downTo[house];
            case 3: return houses.downHow[house];
            default: return refuse(NO);
        }
    }

    // ---- notes

    public int give(int from, int to, int s) {
        Houses houses = world.houses;
        if (!houses.isHouse(from) || !houses.isHouse(to)) {
            return refuse(BEYOND);
        }
        if (!isSum(s) || from == to || !houses.isUp(from) || !houses.isUp(to)
                || !world.canGive(from, to, s)) {
            return refuse(NO);
        }
        world.transfer(from, to, s);
        return houses.gold[from];
    }

    public int present(int house, int n) {
        if (!world.houses.isHouse(house)) {
            return refuse(BEYOND);
        }
        if (house == THE_BANK) {
            return refuse(KIND);
        }
        if (n < 1 || n > COPIES || !world.houses.isUp(house) || world.stopped != NONE) {
            return refuse(NO);
        }
        return world.presentCopies(house, n);
    }

    public int burn(int number) {
        Notes notes = world.notes;
        if (!isNumber(number)) {
            return refuse(BEYOND);
        }
        if (notes.state[number] != IN_NUMBER) {
            return refuse(NO);
        }
        notes.state[number] = BURNT_NUMBER;
        notes.in--;
        notes.burnt++;
        return notes.burnt;
    }

    public int forge(int house, int number) {
        Notes notes = world.notes;
        if (!world.houses.isHouse(house) || !isNumber(number)) {
            return refuse(BEYOND);
        }
        if (house == THE_BANK) {
            return refuse(KIND);
        }
        if (notes.state[number] == NEW_NUMBER || !world.houses.isUp(house)) {
            return refuse(NO);
        }
        if (notes.copies >= COPIES) {
            return refuse(FULL);
        }
        return notes.addForged(house, number);
    }

    public int number(int number) {
        if (!isNumber(number)) {
            return refuse(BEYOND);
        }
        return world.notes.state[number];
    }

    public int copyAt(int number, int c) {
        int copy = world.notes.copyOf(number, c);
        if (copy == NONE) {
            return refuse(BEYOND);
        }
        return world.notes.holder[copy];
    }

    public int trail(int number, int c, int i) {
        int copy = world.notes.copyOf(number, c);
        if (copy == NONE || i < 0 || i >= world.notes.trailLength[copy]) {
            return refuse(BEYOND);
        }
        return records.trail[copy * TRAIL + i];
    }

    public int found(int i, int what) {
        if (i < 0 || i >= Math.min(FOUND, world.notes.found)) {
            return refuse(BEYOND);
        }
        switch (what) {
            case 0: return records.foundNumber[i];
            case 1: return records.foundHouse[i];
            case 2: return records.foundDay[i];
            default: return refuse(NO);
        }
    }

    // ---- papers

    public int promise(int debtor, int holder, int sum, int days) {
        return drawn(PROMISE, debtor, holder, sum, days);
    }

    public int bill(int debtor, int drawer, int sum, int days) {
        return drawn(BILL, debtor, drawer, sum, days);
    }

    public int deposit(int holder, int bank, int sum) {
        Houses houses = world.houses;
        if (!houses.isHouse(holder) || !houses.isHouse(bank)) {
            return refuse(BEYOND);
        }
        if (holder == THE_BANK || houses.kind[bank] != BANK_KIND) {
            return refuse(KIND);
        }
        if (!isSum(sum) || holder == bank || !houses.isUp(holder) || !houses.isUp(bank)
                || !world.houseCan(holder, bank, sum)) {
            return refuse(NO);
        }
        if (world.papers.isFull()) {
            return refuse(FULL);
        }
        world.transfer(holder, bank, sum);
        return world.papers.addPaper(DEPOSIT, bank, holder, sum, NONE);
    }

    public int help(int paper, int days) {
        Papers papers = world.papers;
        if (!papers.isPaper(paper)) {
            return refuse(BEYOND);
        }
        if (papers.kind[paper] != BILL || papers.holder[paper] == THE_BANK) {
            return refuse(KIND);
        }
        if (days < 1 || days > DAYS_MOST || papers.state[paper] != LIVE
                || !world.houses.isUp(papers.holder[paper])
                || days >= papers.due[paper] - world.day) {
            return refuse(NO);
        }
        int lent = world.lendable(paper);
        if (lent < 1 || !world.bankCan(lent)) {
            return refuse(NO);
        }
        if (papers.isFull()) {
            return refuse(FULL);
        }
        return world.takePledge(paper, lent, days);
    }

    public int sell(int paper) {
        Papers papers = world.papers;
        if (!papers.isPaper(paper)) {
            return refuse(BEYOND);
        }
        if (papers.kind[paper] != BILL || papers.holder[paper] == THE_BANK) {
            return refuse(KIND);
        }
        if (!world.houses.isUp(papers.holder[paper]) || !papers.maySell(paper, world.day)) {
            return refuse(NO);
        }
        return world.offer(paper);
    }

    public int ask(int paper) {
        Papers papers = world.papers;
        if (!papers.isPaper(paper)) {
            return refuse(BEYOND);
        }
        if (papers.kind[paper] != DEPOSIT) {
            return refuse(KIND);
        }
        if (papers.state[paper] != LIVE || !world.houses.isUp(papers.holder[paper])) {
            return refuse(NO);
        }
        return world.askDeposit(paper) ? 1 : 0;
    }

    public int of(int paper, int what) {
        Papers papers = world.papers;
        if (!papers.isPaper(paper)) {
            return refuse(BEYOND);
        }
        switch (what) {
            case 0: return papers.kind[paper];
            case 1: return papers.sum[paper];
            case 2: return papers.debtor[paper];
            case 3: return papers.holder[paper];
            case 4: return papers.due[paper];
            case 5: return papers.state[paper];
            case 6: return papers.nameCount[paper];
            case 7: return papers.inPledge[paper];
            case 8: return papers.pledged[paper];
            case 9: return papers.askDay[paper];
            case 10: return papers.byTrade[paper];
            default: return refuse(NO);
        }
    }

    public int name(int paper, int i) {
        Papers papers = world.papers;
        if (!papers.isPaper(paper)) {
            return refuse(BEYOND);
        }
        if (papers.kind[paper] != BILL) {
            return refuse(KIND);
        }
        if (i < 0 || i >= papers.nameCount[paper]) {
            return refuse(BEYOND);
        }
        return papers.names[paper * NAMES + i];
    }

    public int price(int paper, int rate) {
        Papers papers = world.papers;
        if (!papers.isPaper(paper)) {
            return refuse(BEYOND);
        }
        if (papers.kind[paper] != BILL) {
            return refuse(KIND);
        }
        if (papers.state[paper] != LIVE || rate < 0 || rate > 30) {
            return refuse(NO);
        }
        return papers.priceAt(paper, rate, world.day);
    }

    public int gets(int paper) {
        Papers papers = world.papers;
        if (!papers.isPaper(paper)) {
            return refuse(BEYOND);
        }
        if (world.houses.isUp(papers.debtor[paper])) {
            return refuse(MISSING);
        }
        claims.shareOut(world);
        return claims.share[paper];
    }

    public int assets(int house) {
        if (!world.houses.isHouse(house)) {
            return refuse(BEYOND);
        }
        if (world.houses.isUp(house)) {
            return refuse(MISSING);
        }
        claims.shareOut(world);
        return claims.wealth[house];
    }

    // ---- trade, rates

    public int trade(int buyer, int seller, int base, int days) {
        Houses houses = world.houses;
        if (!houses.isHouse(buyer) || !houses.isHouse(seller)) {
            return refuse(BEYOND);
        }
        if (houses.kind[buyer] != MERCHANT_KIND || houses.kind[seller] != MERCHANT_KIND) {
            return refuse(KIND);
        }
        if (!isSum(base) || !isTerm(days) || buyer == seller) {
            return refuse(NO);
        }
        if (world.trades.size >= TRADES) {
            return refuse(FULL);
        }
        return world.trades.addTrade(buyer, seller, base, days);
    }

    public int goesOn(int trade, int is) {
        if (trade < 0 || trade >= world.trades.size) {
            return refuse(BEYOND);
        }
        if (is != 0 && is != 1) {
            return refuse(NO);
        }
        int before = world.trades.goes[trade];
        world.trades.goes[trade] = is;
        return before;
    }

    public int tell(int which, int place, int v) {
        if (!isSeason(which) || place < 0 || place >= YEAR) {
            return refuseByZero(BEYOND);
        }
        if (v != NONE && !world.seasons.mayStand(which, v)) {
            return refuseByZero(NO);
        }
        return world.seasons.put(which, place, v);
    }

    public int read(int which) {
        if (!isSeason(which)) {
            return refuse(BEYOND);
        }
        if (rowSize == NONE) {
            return refuse(MISSING);
        }
        int stand = 0;
        for (int i = 0; i < rowSize && i < YEAR; i++) {
            boolean stands = world.seasons.mayStand(which, row[i]);
            world.seasons.put(which, i, stands ? row[i] : NONE);
            stand += stands ? 1 : 0;
        }
        return stand;
    }

    public int week(int which, int week) {
        if (!isSeason(which) || week < 0) {
            return refuse(BEYOND);
        }
        return world.seasons.filled(which, week);
    }

    public int flow(int v) {
        if (v < 0 || v > 100) {
            return refuse(NO);
        }
        int before = world.flow;
        world.flow = v;
        return before;
    }

    public int rate(int v) {
        if (!isRate(v) || world.whichSays(LAW_RATE, NONE) != NONE) {
            return refuse(NO);
        }
        int before = world.rate;
        world.rate = v;
        return before;
    }

    // ---- texts

    public int feed(int bytes, int n) {
        if (n < 0) {
            return refuse(BELOW);
        }
        if (n > 4) {
            return refuse(NO);
        }
        if (tape.length + n > TAPE) {
            return refuse(FULL);
        }
        for (int i = n - 1; i >= 0; i--) {
            tape.addByte((bytes >> (8 * i)) & 255);
        }
        return tape.length;
    }

    public int wipe() {
        int had = tape.length;
        tape.length = 0;
        return had;
    }

    public int text(int from, int to) {
        if (from < 0 || to > TEXT_DAYS || from >= to) {
            return refuse(NO);
        }
        if (world.textCount >= TEXTS) {
            return refuse(FULL);
        }
        int fault = tape.readTape();
        if (fault != NONE) {
            return -10 - fault;
        }
        texts.putText(world.textCount, tape, from, to);
        tape.length = 0;
        world.textCount++;
        return world.textCount - 1;
    }

    public int says(int key, int paper) {
        int fault = faultOfQuestion(key, paper);
        if (fault != 0) {
            return refuseByZero(fault);
        }
        if (key == LAW_RATE && world.whichSays(key, paper) == NONE) {
            return refuseByZero(MISSING);
        }
        return world.lawSays(key, paper);
    }

    public int why(int key, int paper) {
        int fault = faultOfQuestion(key, paper);
        if (fault != 0) {
            return refuse(fault);
        }
        return world.whichSays(key, paper);
    }

    // ---- days, sheets, knowing

    public int run(int n) {
        if (n < 0) {
            return refuse(BELOW);
        }
        if (n < 1 || n > 70) {
            return refuse(NO);
        }
        if (world.day + n > DAYS) {
            return refuse(FULL);
        }
        int before = world.houses.fallen;
        world.passDays(n, true);
        return world.houses.fallen - before;
    }

    public int sheet(int week, int what) {
        if (week < 0 || week >= world.sheetCount()) {
            return refuse(BEYOND);
        }
        if (what < 0 || what >= SHEET_NUMBERS) {
            return refuse(NO);
        }
        return records.sheets[week * SHEET_NUMBERS + what];
    }

    public int knew(int house, int what, int day) {
        if (!world.houses.isHouse(house) || day < 0 || day > world.day) {
            return refuse(BEYOND);
        }
        switch (what) {
            case 0: return world.heardFailures(house, day);
            case 1: return world.heardSheet(house, day);
            case 2: return world.heardReserve(house, day);
            default: return refuse(NO);
        }
    }

    public int count(int what) {
        switch (what) {
            case 0: return world.day;
            case 1: return world.land.towns;
            case 2: return world.houses.size;
            case 3: return world.land.roads;
            case 4: return world.papers.used;
            case 5: return world.trades.size;
            case 6: return world.textCount;
            case 7: return tape.length;
            case 8: return NOTE * world.notes.out;
            case 9: return world.notes.in;
            case 10: return world.notes.burnt;
            case 11: return world.notes.found;
            case 12: return world.refused;
            case 13: return world.houses.fallen;
            case 14: return world.stopped;
            case 15: return world.rate;
            case 16: return world.lawSays(LAW_LIFT, NONE) != 0 ? 1 : 0;
            case 17: return world.reserve();
            default: return refuse(NO);
        }
    }

    // ---- tries, plans, images

    public int attempt(int rates, int weeks, int what) {
        if (what < 0 || what > 4) {
            return refuse(BEYOND);
        }
        if (!isTryLength(weeks) || !areRates(rates, weeks)) {
            return refuse(NO);
        }
        if (isTooLate(weeks)) {
            return refuse(FULL);
        }
        starts[0].become(world);
        for (int week = 0; week < weeks; week++) {
            world.rate = rateAt(rates, week);
            world.passDays(WEEK_DAYS, false);
        }
        int answer = outcome(what);
        world.become(starts[0]);
        return answer;
    }

    // The rows come in the order that decides between like ones, so a later row must be better to
    // be taken; the weeks that a row shares with the one ahead of it are not gone through again.
    public int plan(int rates, int weeks) {
        if (!isTryLength(weeks) || !areRates(rates, WEEK_NUMBERS)) {
            return refuse(NO);
        }
        if (isTooLate(weeks)) {
            return refuse(FULL);
        }
        int rows = 1 << (2 * weeks);
        int least = 0;
        int fewest = 0;
        starts[0].become(world);
        for (int n = 0; n < rows; n++) {
            int first = n == 0 ? 0 : weeks - 1 - Integer.numberOfTrailingZeros(n) / 2;
            for (int week = first; week < weeks; week++) {
                if (week == first) {
                    world.become(starts[week]);
                } else {
                    starts[week].become(world);
                }
                world.rate = rateAt(rates, (n >> (2 * (weeks - 1 - week))) & 3);
                world.passDays(WEEK_DAYS, false);
                noteWeek(week);
            }
            int badness = badness();
            if (n == 0 || badness < least) {
                least = badness;
                fewest = world.houses.fallen;
                System.arraycopy(tried, 0, row, 0, weeks * WEEK_NUMBERS);
            }
        }
        rowSize = weeks * WEEK_NUMBERS;
        world.become(starts[0]);
        return fewest;
    }

    public int judge() {
        if (rowSize == NONE) {
            return refuse(MISSING);
        }
        int weeks = rowSize / WEEK_NUMBERS;
        if (weeks * WEEK_NUMBERS != rowSize || !isTryLength(weeks)) {
            return refuse(KIND);
        }
        if (isTooLate(weeks)) {
            return refuse(FULL);
        }
        int wrong = NONE;
        starts[0].become(world);
        for (int week = 0; week < weeks && wrong == NONE; week++) {
            int rate = row[week * WEEK_NUMBERS];
            if (isRate(rate)) {
                world.rate = rate;
                world.passDays(WEEK_DAYS, false);
                noteWeek(week);
                wrong = firstWrong(week);
            } else {
                wrong = week * WEEK_NUMBERS;
            }
        }
        world.become(starts[0]);
        return wrong;
    }

    public int image() {
        kept.become(world);
        isKept = true;
        return world.day;
    }

    public int back() {
        if (!isKept) {
            return refuse(MISSING);
        }
        world.become(kept);
        return world.day;
    }

    // ---- rows

    public int lay(int n) {
        if (n < 0) {
            return refuse(BELOW);
        }
        if (n > ROW) {
            return refuse(NO);
        }
        for (int i = 0; i < n; i++) {
            row[i] = 0;
        }
        rowSize = n;
        return n;
    }

    public int set(int i, int v) {
        if (rowSize == NONE) {
            return refuseByZero(MISSING);
        }
        if (i < 0 || i >= rowSize) {
            return refuseByZero(BEYOND);
        }
        int before = row[i];
        row[i] = v;
        return before;
    }

    public int tear() {
        int was = rowSize == NONE ? 0 : 1;
        rowSize = NONE;
        return was;
    }

    public int row(int i) {
        if (rowSize == NONE) {
            return refuseByZero(MISSING);
        }
        if (i < 0 || i >= rowSize) {
            return refuseByZero(BEYOND);
        }
        return row[i];
    }

    public int copy(int i, int j, int n) {
        if (rowSize == NONE) {
            return refuse(MISSING);
        }
        if (n < 0) {
            return refuse(BELOW);
        }
        if (i < 0 || j < 0 || i > rowSize - n || j > rowSize - n) {
            return refuse(COPY);
        }
        System.arraycopy(row, i, row, j, n);
        return n;
    }

    public int status(int by) {
        if (by > MISSING || by < FULL) {
            return refuse(NO);
        }
        return refusals[MISSING - by];
    }

    // ---- what the calls share

    private int refuse(int answer) {
        if (answer <= MISSING && answer >= FULL) {
            refusals[MISSING - answer]++;
        }
        return answer;
    }

    private int refuseByZero(int reason) {
        refuse(reason);
        return 0;
    }

    private static boolean isNumber(int number) {
        return number >= 0 && number < NUMBERS;
    }

    private static boolean isSum(int sum) {
        return sum >= 1 && sum <= SUM_MOST;
    }

    private static boolean isTerm(int days) {
        return days >= 1 && days <= DAYS_MOST;
    }

    private static boolean isSeason(int which) {
        return which == HARVEST || which == ABROAD;
    }

    private static boolean isRate(int rate) {
        return rate >= 0 && rate <= RATE_MOST;
    }

    private static boolean isTryLength(int weeks) {
        return weeks >= 1 && weeks <= TRY_WEEKS;
    }

    private boolean isTooLate(int weeks) {
        return world.day + WEEK_DAYS * weeks > DAYS;
    }

    private static int rateAt(int rates, int place) {
        return (rates >> (RATE_BITS * place)) & 31;
    }

    private static boolean areRates(int rates, int n) {
        if (rates < 0 || rates >> (RATE_BITS * n) != 0) {
            return false;
        }
        for (int i = 0; i < n; i++) {
            if (!isRate(rateAt(rates, i))) {
                return false;
            }
        }
        return true;
    }

    private int drawn(int kind, int debtor, int holder, int sum, int days) {
        Houses houses = world.houses;
        if (!houses.isHouse(debtor) || !houses.isHouse(holder)) {
            return refuse(BEYOND);
        }
        if (debtor == THE_BANK || holder == THE_BANK) {
            return refuse(KIND);
        }
        if (!isSum(sum) || !isTerm(days) || debtor == holder
                || !houses.isUp(debtor) || !houses.isUp(holder)) {
            return refuse(NO);
        }
        if (world.papers.isFull()) {
            return refuse(FULL);
        }
        return world.papers.addPaper(kind, debtor, holder, sum, world.day + days);
    }

    private int faultOfQuestion(int key, int paper) {
        if (key < LAW_OUT || key > LAW_LIFT) {
            return BEYOND;
        }
        if (paper == NONE) {
            return 0;
        }
        if (!world.papers.isPaper(paper)) {
            return BEYOND;
        }
        return world.papers.kind[paper] == BILL ? 0 : KIND;
    }

    private int refusedInTry() {
        return world.refused - starts[0].refused;
    }

    private int outcome(int what) {
        switch (what) {
            case 0: return world.houses.gold[THE_BANK];
            case 1: return NOTE * world.notes.out;
            case 2: return world.houses.fallen;
            case 3: return refusedInTry();
            default: return world.stopped != NONE ? 1 : 0;
        }
    }

    // One number for the three that are compared one behind the other: at most 60 bills are
    // refused in each of 28 days, and at most 15 houses are down, so none reaches the next.
    private int badness() {
        int stopped = world.stopped != NONE ? 1 : 0;
        return (stopped * HOUSES + world.houses.fallen) * 100000 + refusedInTry();
    }

    private void noteWeek(int week) {
        int at = week * WEEK_NUMBERS;
        tried[at] = world.rate;
        tried[at + 1] = world.houses.gold[THE_BANK];
        tried[at + 2] = NOTE * world.notes.out;
        tried[at + 3] = world.houses.fallen;
    }

    private int firstWrong(int week) {
        int at = week * WEEK_NUMBERS;
        for (int i = at; i < at + WEEK_NUMBERS; i++) {
            if (row[i] != tried[i]) {
                return i;
            }
        }
        return NONE;
    }

    private static void copyAll(int[] from, int[] to) {
        System.arraycopy(from, 0, to, 0, Math.min(from.length, to.length));
    }

    private static int within(int v, int least, int most) {
        return Math.max(least, Math.min(most, v));
    }

    /**
     * Rows that only grow. What stands in them ahead of a World's counts is never written again,
     * so all Worlds share them, and a World that becomes an earlier one needs only its counts.
     */
    private static final class Records {
        final int[] copyNumber = new int[COPIES];
        final int[] trail = new int[COPIES * TRAIL];
        final int[] foundNumber = new int[FOUND];
        final int[] foundHouse = new int[FOUND];
        final int[] foundDay = new int[FOUND];
        final int[] sheets = new int[SHEETS * SHEET_NUMBERS];
    }

    /** Towns, and how far they are. */
    private static final class Land {
        final int[] days = new int[TOWNS * TOWNS];
        int towns = 1;
        int roads;

        Land() {
            for (int i = 0; i < days.length; i++) {
                days[i] = i / TOWNS == i % TOWNS ? 0 : NONE;
            }
        }

        void become(Land other) {
            copyAll(other.days, days);
            towns = other.towns;
            roads = other.roads;
        }

        boolean isTown(int town) {
            return town >= 0 && town < towns;
        }

        int between(int a, int b) {
            return isTown(a) && isTown(b) ? days[a * TOWNS + b] : NONE;
        }

        void addRoad(int a, int b, int length) {
            roads++;
            for (int i = 0; i < TOWNS; i++) {
                for (int j = 0; j < TOWNS; j++) {
                    shorten(i * TOWNS + j, days[i * TOWNS + a], length, days[b * TOWNS + j]);
                    shorten(i * TOWNS + j, days[i * TOWNS + b], length, days[a * TOWNS + j]);
                }
            }
        }

        private void shorten(int at, int before, int length, int behind) {
            if (before == NONE || behind == NONE) {
                return;
            }
            int way = before + length + behind;
            if (days[at] == NONE || way < days[at]) {
                days[at] = way;
            }
        }
    }

    private static final class Houses {
        final int[] kind = new int[HOUSES];
        final int[] town = new int[HOUSES];
        final int[] gold = new int[HOUSES];
        final int[] min = new int[HOUSES];
        final int[] banker = new int[HOUSES];
        final int[] bold = new int[HOUSES];
        final int[] care = new int[HOUSES];
        final int[] downDay = new int[HOUSES];
        final int[] downPaper = new int[HOUSES];
        final int[] downTo = new int[HOUSES];
        final int[] downHow = new int[HOUSES];
        int size = 1;
        int fallen;

        Houses() {
            kind[THE_BANK] = THE_BANK_KIND;
            banker[THE_BANK] = NONE;
            downDay[THE_BANK] = NONE;
        }

        void become(Houses other) {
            copyAll(other.kind, kind);
            copyAll(other.town, town);
            copyAll(other.gold, gold);
            copyAll(other.min, min);
            copyAll(other.banker, banker);
            copyAll(other.bold, bold);
            copyAll(other.care, care);
            copyAll(other.downDay, downDay);
            copyAll(other.downPaper, downPaper);
            copyAll(other.downTo, downTo);
            copyAll(other.downHow, downHow);
            size = other.size;
            fallen = other.fallen;
        }

        boolean isHouse(int house) {
            return house >= 0 && house < size;
        }

        boolean isUp(int house) {
            return isHouse(house) && downDay[house] == NONE;
        }

        int addHouse(int itsKind, int itsTown) {
            int house = size;
            kind[house] = itsKind;
            town[house] = itsTown;
            gold[house] = 0;
            min[house] = 0;
            banker[house] = THE_BANK;
            bold[house] = 9;
            care[house] = 0;
            downDay[house] = NONE;
            size++;
            return house;
        }

        void fall(int house, int day, int paper, int to, int how) {
            downDay[house] = day;
            downPaper[house] = paper;
            downTo[house] = to;
            downHow[house] = how;
            fallen++;
        }
    }

    /** Numbers and their copies; who holds each copy, and in which order a house's copies go. */
    private static final class Notes {
        final Records records;
        final int[] state = new int[NUMBERS];
        final int[] lastIn = new int[NUMBERS];
        final int[] holder = new int[COPIES];
        final int[] trailLength = new int[COPIES];
        final int[] order = new int[COPIES];
        final int[] held = new int[HOUSES];
        int copies;
        int firstNew;
        int out;
        int in;
        int burnt;
        int found;

        Notes(Records shared) {
            records = shared;
        }

        void become(Notes other) {
            copyAll(other.state, state);
            copyAll(other.lastIn, lastIn);
            copyAll(other.holder, holder);
            copyAll(other.trailLength, trailLength);
            copyAll(other.order, order);
            copyAll(other.held, held);
            copies = other.copies;
            firstNew = other.firstNew;
            out = other.out;
            in = other.in;
            burnt = other.burnt;
            found = other.found;
        }

        boolean canIssue(int n) {
            int ofNew = Math.max(0, n - in);
            return ofNew <= NUMBERS - firstNew && ofNew <= COPIES - copies;
        }

        void issue(int house, int n) {
            int left = n;
            int known = firstNew;
            for (int number = 0; number < known && left > 0; number++) {
                if (state[number] == IN_NUMBER) {
                    state[number] = OUT_NUMBER;
                    in--;
                    out++;
                    moveTo(lastIn[number], house);
                    left--;
                }
            }
            for (; left > 0 && firstNew < NUMBERS && copies < COPIES; left--) {
                int copy = addCopy(firstNew, copies);
                state[firstNew] = OUT_NUMBER;
                firstNew++;
                out++;
                moveTo(copy, THE_BANK);
                moveTo(copy, house);
            }
        }

        int addForged(int house, int number) {
            int place = 0;
            int before = 0;
            for (int i = 0; i < copies && records.copyNumber[order[i]] <= number; i++) {
                place = i + 1;
                before += records.copyNumber[order[i]] == number ? 1 : 0;
            }
            moveTo(addCopy(number, place), house);
            return before;
        }

        private int addCopy(int number, int place) {
            int copy = copies;
            for (int i = copies; i > place; i--) {
                order[i] = order[i - 1];
            }
            order[place] = copy;
            records.copyNumber[copy] = number;
            holder[copy] = NONE;
            trailLength[copy] = 0;
            copies++;
            return copy;
        }

        int copyOf(int number, int c) {
            int seen = 0;
            for (int i = 0; i < copies; i++) {
                if (records.copyNumber[order[i]] == number) {
                    if (seen == c) {
                        return order[i];
                    }
                    seen++;
                }
            }
            return NONE;
        }

        void moveTo(int copy, int house) {
            int before = holder[copy];
            if (before > THE_BANK) {
                held[before]--;
            }
            holder[copy] = house;
            if (house > THE_BANK) {
                held[house]++;
            }
            if (trailLength[copy] < TRAIL) {
                records.trail[copy * TRAIL + trailLength[copy]] = house;
                trailLength[copy]++;
            }
        }

        void markIn(int copy) {
            int number = records.copyNumber[copy];
            state[number] = IN_NUMBER;
            lastIn[number] = copy;
            out--;
            in++;
        }

        void pass(int from, int to, int n) {
            int left = n;
            for (int i = 0; i < copies && left > 0; i++) {
                int copy = order[i];
                if (holder[copy] == from) {
                    if (to == THE_BANK) {
                        markIn(copy);
                    }
                    moveTo(copy, to);
                    left--;
                }
            }
        }

        int goodOf(int house) {
            int good = 0;
            int last = NONE;
            for (int i = 0; i < copies && held[house] > 0; i++) {
                int copy = order[i];
                if (holder[copy] == house) {
                    int number = records.copyNumber[copy];
                    good += state[number] == OUT_NUMBER && number != last ? 1 : 0;
                    last = number;
                }
            }
            return good;
        }

        void findForged(int house, int day) {
            int last = NONE;
            for (int i = 0; i < copies && held[house] > 0; i++) {
                int copy = order[i];
                if (holder[copy] == house) {
                    int number = records.copyNumber[copy];
                    if (state[number] != OUT_NUMBER || number == last) {
                        noteFound(copy, house, day);
                    }
                    last = number;
                }
            }
        }

        private void noteFound(int copy, int house, int day) {
            if (found < FOUND) {
                records.foundNumber[found] = records.copyNumber[copy];
                records.foundHouse[found] = house;
                records.foundDay[found] = day;
            }
            found++;
            holder[copy] = NONE;
            held[house]--;
        }
    }

    /** Papers by number; a free one has the kind NONE. */
    private static final class Papers {
        final int[] kind = new int[PAPERS];
        final int[] sum = new int[PAPERS];
        final int[] debtor = new int[PAPERS];
        final int[] holder = new int[PAPERS];
        final int[] due = new int[PAPERS];
        final int[] state = new int[PAPERS];
        final int[] names = new int[PAPERS * NAMES];
        final int[] nameCount = new int[PAPERS];
        final int[] inPledge = new int[PAPERS];
        final int[] pledged = new int[PAPERS];
        final int[] askDay = new int[PAPERS];
        final int[] byTrade = new int[PAPERS];
        final int[] made = new int[PAPERS];
        final boolean[] turnedAway = new boolean[PAPERS];
        int used;
        // No number from here on was ever used: a day looks no further.
        int end;

        Papers() {
            for (int i = 0; i < PAPERS; i++) {
                kind[i] = NONE;
                state[i] = NONE;
            }
        }

        void become(Papers other) {
            copyAll(other.kind, kind);
            copyAll(other.sum, sum);
            copyAll(other.debtor, debtor);
            copyAll(other.holder, holder);
            copyAll(other.due, due);
            copyAll(other.state, state);
            copyAll(other.names, names);
            copyAll(other.nameCount, nameCount);
            copyAll(other.inPledge, inPledge);
            copyAll(other.pledged, pledged);
            copyAll(other.askDay, askDay);
            copyAll(other.byTrade, byTrade);
            copyAll(other.made, made);
            used = other.used;
            end = other.end;
        }

        boolean isPaper(int paper) {
            return paper >= 0 && paper < PAPERS && kind[paper] != NONE;
        }

        boolean isFull() {
            return used >= PAPERS;
        }

        // Answers NONE if no number is free: callers ask isFull() first.
        int addPaper(int itsKind, int itsDebtor, int itsHolder, int itsSum, int itsDue) {
            for (int i = 0; i < PAPERS; i++) {
                if (kind[i] == NONE) {
                    kind[i] = itsKind;
                    sum[i] = itsSum;
                    debtor[i] = itsDebtor;
                    holder[i] = itsHolder;
                    due[i] = itsDue;
                    state[i] = LIVE;
                    nameCount[i] = itsKind == BILL ? 2 : 0;
                    names[i * NAMES] = itsDebtor;
                    names[i * NAMES + 1] = itsHolder;
                    inPledge[i] = 0;
                    pledged[i] = NONE;
                    askDay[i] = NONE;
                    byTrade[i] = 0;
                    made[i] = NONE;
                    used++;
                    end = Math.max(end, i + 1);
                    return i;
                }
            }
            return NONE;
        }

        void payOff(int paper) {
            if (kind[paper] == PLEDGE) {
                giveBack(pledged[paper], debtor[paper]);
            }
            kind[paper] = NONE;
            state[paper] = NONE;
            used--;
        }

        private void giveBack(int bill, int house) {
            if (bill >= 0 && bill < PAPERS) {
                holder[bill] = house;
                inPledge[bill] = 0;
            }
        }

        void killThoseOf(int house) {
            for (int i = 0; i < end; i++) {
                if (state[i] == LIVE && debtor[i] == house && kind[i] != BILL) {
                    state[i] = DEAD;
                    if (kind[i] == PLEDGE) {
                        giveBack(pledged[i], THE_BANK);
                    }
                }
            }
        }

        int heldBy(int house) {
            int n = 0;
            for (int i = 0; i < end; i++) {
                n += kind[i] != NONE && holder[i] == house ? 1 : 0;
            }
            return n;
        }

        int owedBy(int house) {
            int n = 0;
            for (int i = 0; i < end; i++) {
                n += kind[i] != NONE && debtor[i] == house ? 1 : 0;
            }
            return n;
        }

        int priceAt(int paper, int rate, int day) {
            return sum[paper] - sum[paper] * rate * (due[paper] - day) / 36000;
        }

        boolean maySell(int paper, int day) {
            return kind[paper] == BILL && state[paper] == LIVE && due[paper] > day
                    && inPledge[paper] == 0 && nameCount[paper] < NAMES;
        }

        int nextToSell(int house, int day) {
            int next = NONE;
            for (int i = 0; i < end; i++) {
                if (holder[i] == house && !turnedAway[i] && maySell(i, day)
                        && (next == NONE || due[i] < due[next])) {
                    next = i;
                }
            }
            return next;
        }

        void forgetTurnedAway() {
            for (int i = 0; i < end; i++) {
                turnedAway[i] = false;
            }
        }

        void sellOn(int paper, int buyer) {
            int n = nameCount[paper];
            int seller = holder[paper];
            if (n > 0 && n < NAMES && names[paper * NAMES + n - 1] != seller) {
                names[paper * NAMES + n] = seller;
                nameCount[paper] = n + 1;
            }
            holder[paper] = buyer;
        }

        void strikeHolder(int paper) {
            for (int i = 1; i < nameCount[paper]; i++) {
                if (names[paper * NAMES + i] == holder[paper]) {
                    nameCount[paper] = i;
                }
            }
        }

        // The place of the name that answers next, NONE if only the debtor is left.
        int nameThatAnswers(int paper) {
            for (int i = nameCount[paper] - 1; i > 0; i--) {
                int name = names[paper * NAMES + i];
                if (name != holder[paper] && name != debtor[paper]) {
                    return i;
                }
            }
            return NONE;
        }
    }

    private static final class Trades {
        final int[] buyer = new int[TRADES];
        final int[] seller = new int[TRADES];
        final int[] base = new int[TRADES];
        final int[] term = new int[TRADES];
        final int[] goes = new int[TRADES];
        int size;

        void become(Trades other) {
            copyAll(other.buyer, buyer);
            copyAll(other.seller, seller);
            copyAll(other.base, base);
            copyAll(other.term, term);
            copyAll(other.goes, goes);
            size = other.size;
        }

        int addTrade(int itsBuyer, int itsSeller, int itsBase, int itsTerm) {
            buyer[size] = itsBuyer;
            seller[size] = itsSeller;
            base[size] = itsBase;
            term[size] = itsTerm;
            goes[size] = 1;
            size++;
            return size - 1;
        }
    }

    /** Harvest and the rate abroad, for each week of a year, or gaps. */
    private static final class Seasons {
        final int[] numbers = new int[2 * YEAR];

        Seasons() {
            for (int i = 0; i < numbers.length; i++) {
                numbers[i] = NONE;
            }
        }

        void become(Seasons other) {
            copyAll(other.numbers, numbers);
        }

        boolean mayStand(int which, int v) {
            return v >= 0 && v <= (which == HARVEST ? 200 : RATE_MOST);
        }

        int put(int which, int place, int v) {
            int at = which * YEAR + place;
            int before = numbers[at];
            numbers[at] = v;
            return before;
        }

        int filled(int which, int week) {
            int place = week % YEAR;
            for (int i = 0; i < YEAR; i++) {
                int v = numbers[which * YEAR + Math.floorMod(place - i, YEAR)];
                if (v != NONE) {
                    return v;
                }
            }
            return which == HARVEST ? 100 : 5;
        }
    }

    /**
     * THE TAPE, and the reading of it. What is read becomes a line of codes, operands ahead of what
     * is done with them: a code of 0 or more is a number, -1 .. -10 the names, the others signs.
     */
    private static final class Reader {
        static final String WORDS =
                "out rate buy lend hide show lift gold notes reserve week day price sum days names town if or and not ";
        static final int FIRST_NAME = 7;
        static final int WORD_IF = 17;
        static final int OPEN_MOST = 6;
        static final int DIGITS = 5;
        static final int BLANK = 32;

        // A token is one of these, or a sign by its own byte, which is 37 at least.
        static final int END = 0;
        static final int STOP = 1;
        static final int A_NUMBER = 2;
        static final int A_KEY = 3;
        static final int A_NAME = 4;
        static final int AN_IF = 5;
        static final int AN_OR = 6;
        static final int AN_AND = 7;
        static final int A_NOT = 8;

        final int[] bytes = new int[TAPE];
        final int[] codes = new int[TAPE];
        int length;
        int size;
        int meaningSize;
        int key;
        int place;
        int fault;
        int token;
        int tokenPlace;
        int tokenValue;

        void addByte(int b) {
            if (length < TAPE) {
                bytes[length] = b;
                length++;
            }
        }

        /** Answers the fault, NONE if there is none: then key and codes are those of the text. */
        int readTape() {
            place = 0;
            size = 0;
            fault = NONE;
            nextToken();
            if (token != A_KEY) {
                stop();
                return fault;
            }
            key = tokenValue;
            nextToken();
            readOrs(0);
            meaningSize = size;
            if (token == AN_IF) {
                nextToken();
                readOrs(0);
            }
            if (token != END) {
                stop();
            }
            return fault;
        }

        // Behind a fault no token fits any more, so that what is open ends without more reading.
        private void stop() {
            if (fault == NONE) {
                fault = tokenPlace;
            }
            token = STOP;
        }

        private void addCode(int code) {
            if (size < codes.length) {
                codes[size] = code;
                size++;
            }
        }

        private void readOrs(int open) {
            readAnds(open);
            for (int i = 0; i < TAPE && token == AN_OR; i++) {
                nextToken();
                readAnds(open);
                addCode(Texts.OR);
            }
        }

        private void readAnds(int open) {
            readNot(open);
            for (int i = 0; i < TAPE && token == AN_AND; i++) {
                nextToken();
                readNot(open);
                addCode(Texts.AND);
            }
        }

        private void readNot(int open) {
            if (token == A_NOT) {
                if (open >= OPEN_MOST) {
                    stop();
                    return;
                }
                nextToken();
                readNot(open + 1);
                addCode(Texts.NOT);
                return;
            }
            readSum(open);
            int code = Texts.codeOfComparison(token);
            if (code != 0) {
                nextToken();
                readSum(open);
                addCode(code);
            }
        }

        private void readSum(int open) {
            readTerm(open);
            for (int i = 0; i < TAPE && (token == '+' || token == '-'); i++) {
                int code = token == '+' ? Texts.PLUS : Texts.MINUS;
                nextToken();
                readTerm(open);
                addCode(code);
            }
        }

        private void readTerm(int open) {
            readOne(open);
            for (int i = 0; i < TAPE && (token == '*' || token == '/' || token == '%'); i++) {
                int code = token == '*' ? Texts.TIMES : token == '/' ? Texts.OVER : Texts.REST;
                nextToken();
                readOne(open);
                addCode(code);
            }
        }

        private void readOne(int open) {
            boolean opens = token == '-' || token == '(';
            if (token == A_NUMBER) {
                addCode(tokenValue);
                nextToken();
            } else if (token == A_NAME) {
                addCode(NONE - tokenValue);
                nextToken();
            } else if (!opens || open >= OPEN_MOST) {
                stop();
            } else if (token == '-') {
                nextToken();
                readOne(open + 1);
                addCode(Texts.LESS);
            } else {
                nextToken();
                readOrs(open + 1);
                if (token == ')') {
                    nextToken();
                } else {
                    stop();
                }
            }
        }

        private void nextToken() {
            while (place < length && bytes[place] == BLANK) {
                place++;
            }
            tokenPlace = place;
            if (place >= length) {
                token = END;
            } else if (isLetter(bytes[place])) {
                readWord();
            } else if (isDigit(bytes[place])) {
                readNumber();
            } else {
                token = isSign(bytes[place]) ? bytes[place] : STOP;
                place++;
            }
        }

        private void readWord() {
            while (place < length && isLetter(bytes[place])) {
                place++;
            }
            int word = wordAt(tokenPlace, place);
            tokenValue = word;
            if (word == NONE) {
                token = STOP;
            } else if (word < FIRST_NAME) {
                token = A_KEY;
            } else if (word < WORD_IF) {
                token = A_NAME;
                tokenValue = word - FIRST_NAME;
            } else {
                token = AN_IF + word - WORD_IF;
            }
        }

        private void readNumber() {
            tokenValue = 0;
            while (place < length && isDigit(bytes[place])) {
                tokenValue = 10 * tokenValue + bytes[place] - '0';
                place++;
            }
            token = place - tokenPlace > DIGITS ? STOP : A_NUMBER;
        }

        private int wordAt(int from, int to) {
            int word = 0;
            int at = from;
            boolean same = true;
            for (int i = 0; i < WORDS.length(); i++) {
                int letter = WORDS.charAt(i);
                if (letter == BLANK) {
                    if (same && at == to) {
                        return word;
                    }
                    word++;
                    at = from;
                    same = true;
                } else {
                    same = same && at < to && bytes[at] == letter;
                    at++;
                }
            }
            return NONE;
        }

        private static boolean isLetter(int b) {
            return b >= 'a' && b <= 'z';
        }

        private static boolean isDigit(int b) {
            return b >= '0' && b <= '9';
        }

        private static boolean isSign(int b) {
            switch (b) {
                case '(': case ')': case '+': case '-': case '*': case '/': case '%':
                case '=': case '<': case '>':
                    return true;
                default:
                    return false;
            }
        }
    }

    /** The texts that were read; they only come, so that all Worlds share them, each with its count. */
    private static final class Texts {
        static final int FACTS = 10;
        static final int NOT = -11;
        static final int LESS = -12;
        static final int OR = -13;
        static final int AND = -14;
        static final int EQUAL = -15;
        static final int SMALLER = -16;
        static final int GREATER = -17;
        static final int PLUS = -18;
        static final int MINUS = -19;
        static final int TIMES = -20;
        static final int OVER = -21;
        static final int REST = -22;

        final int[] key = new int[TEXTS];
        final int[] from = new int[TEXTS];
        final int[] to = new int[TEXTS];
        final int[] meaningSize = new int[TEXTS];
        final int[] size = new int[TEXTS];
        final int[] codes = new int[TEXTS * TAPE];
        final int[] stack = new int[TAPE + 1];

        static int codeOfComparison(int sign) {
            switch (sign) {
                case '=': return EQUAL;
                case '<': return SMALLER;
                case '>': return GREATER;
                default: return 0;
            }
        }

        void putText(int text, Reader reader, int itsFrom, int itsTo) {
            key[text] = reader.key;
            from[text] = itsFrom;
            to[text] = itsTo;
            meaningSize[text] = reader.meaningSize;
            size[text] = reader.size;
            System.arraycopy(reader.codes, 0, codes, text * TAPE, reader.size);
        }

        boolean isInForce(int text, int itsKey, int day) {
            return key[text] == itsKey && from[text] <= day && day < to[text];
        }

        boolean hasIf(int text) {
            return size[text] > meaningSize[text];
        }

        int work(int text, boolean ofIf, int[] facts) {
            int start = text * TAPE + (ofIf ? meaningSize[text] : 0);
            int end = text * TAPE + (ofIf ? size[text] : meaningSize[text]);
            int top = 0;
            for (int i = start; i < end; i++) {
                int code = codes[i];
                if (code > NOT) {
                    stack[top] = code >= 0 ? code : facts[NONE - code];
                    top++;
                    continue;
                }
                if (code <= OR) {
                    top--;
                }
                if (top < 1) {
                    return 0;
                }
                int a = stack[top - 1];
                int b = stack[top];
                switch (code) {
                    case NOT: a = a == 0 ? 1 : 0; break;
                    case LESS: a = -a; break;
                    case OR: a = a != 0 || b != 0 ? 1 : 0; break;
                    case AND: a = a != 0 && b != 0 ? 1 : 0; break;
                    case EQUAL: a = a == b ? 1 : 0; break;
                    case SMALLER: a = a < b ? 1 : 0; break;
                    case GREATER: a = a > b ? 1 : 0; break;
                    case PLUS: a = a + b; break;
                    case MINUS: a = a - b; break;
                    case TIMES: a = a * b; break;
                    case OVER: a = b == 0 ? 0 : a / b; break;
                    default: a = b == 0 ? 0 : a % b; break;
                }
                stack[top - 1] = a;
            }
            return stack[0];
        }
    }

    /** All that an image keeps and a try leaves as it was, and how a day goes by. */
    private static final class World {
        final Land land = new Land();
        final Houses houses = new Houses();
        final Papers papers = new Papers();
        final Trades trades = new Trades();
        final Seasons seasons = new Seasons();
        final int[] facts = new int[Texts.FACTS];
        final Records records;
        final Texts texts;
        final Notes notes;
        int day;
        int rate = 5;
        int flow;
        int refused;
        int stopped = NONE;
        int textCount;

        World(Records itsRecords, Texts itsTexts) {
            records = itsRecords;
            texts = itsTexts;
            notes = new Notes(itsRecords);
        }

        void become(World other) {
            land.become(other.land);
            houses.become(other.houses);
            papers.become(other.papers);
            trades.become(other.trades);
            seasons.become(other.seasons);
            notes.become(other.notes);
            day = other.day;
            rate = other.rate;
            flow = other.flow;
            refused = other.refused;
            stopped = other.stopped;
            textCount = other.textCount;
        }

        int coin(int house) {
            return houses.gold[house] + NOTE * notes.held[house];
        }

        int farFrom(int house, int town) {
            return land.between(town, houses.town[house]);
        }

        int reserve() {
            int out = NOTE * notes.out;
            if (out <= 0 || 100L * houses.gold[THE_BANK] / out > RESERVE_MOST) {
                return RESERVE_MOST;
            }
            return (int) (100L * houses.gold[THE_BANK] / out);
        }

        // ---- what the texts say

        void gatherFacts(int bill) {
            boolean has = papers.isPaper(bill);
            facts[0] = houses.gold[THE_BANK];
            facts[1] = NOTE * notes.out;
            facts[2] = reserve();
            facts[3] = day / WEEK_DAYS;
            facts[4] = day;
            facts[5] = rate;
            facts[6] = has ? papers.sum[bill] : 0;
            facts[7] = has ? papers.due[bill] - day : 0;
            facts[8] = has ? papers.nameCount[bill] : 0;
            facts[9] = has ? houses.town[papers.debtor[bill]] : 0;
        }

        private int textInForce(int key) {
            for (int i = textCount - 1; i >= 0; i--) {
                if (texts.isInForce(i, key, day)
                        && (!texts.hasIf(i) || texts.work(i, true, facts) != 0)) {
                    return i;
                }
            }
            return NONE;
        }

        int whichSays(int key, int bill) {
            gatherFacts(bill);
            return textInForce(key);
        }

        // The rule rate without a text says the rate as it is: nothing changes by that.
        int lawSays(int key, int bill) {
            gatherFacts(bill);
            int text = textInForce(key);
            if (text != NONE) {
                return texts.work(text, false, facts);
            }
            switch (key) {
                case LAW_OUT: return houses.gold[THE_BANK];
                case LAW_RATE: return rate;
                case LAW_BUY: return 1;
                case LAW_SHOW: return 63;
                default: return 0;
            }
        }

        // ---- giving

        boolean canGive(int from, int to, int s) {
            return from == THE_BANK ? bankCan(s) : houseCan(from, to, s);
        }

        boolean houseCan(int from, int to, int s) {
            if (from == to) {
                return true;
            }
            int notesLeft = to == THE_BANK ? notes.goodOf(from) : notes.held[from];
            return houses.gold[from] >= s - NOTE * Math.min(notesLeft, s / NOTE);
        }

        boolean bankCan(int s) {
            int n = s / NOTE;
            if (houses.gold[THE_BANK] < s - NOTE * n) {
                return false;
            }
            if (n == 0) {
                return true;
            }
            return notes.canIssue(n) && (lawSays(LAW_LIFT, NONE) != 0
                    || NOTE * (notes.out + n) <= lawSays(LAW_OUT, NONE));
        }

        void transfer(int from, int to, int s) {
            if (from == to) {
                return;
            }
            int n = s / NOTE;
            if (from == THE_BANK) {
                notes.issue(to, n);
            } else {
                if (to == THE_BANK) {
                    notes.findForged(from, day);
                }
                n = Math.min(n, notes.held[from]);
                notes.pass(from, to, n);
            }
            houses.gold[from] -= s - NOTE * n;
            houses.gold[to] += s - NOTE * n;
        }

        int presentCopies(int house, int n) {
            int came = 0;
            notes.findForged(house, day);
            for (int i = 0; i < notes.copies && notes.held[house] > 0 && came < n && stopped == NONE; i++) {
                int copy = notes.order[i];
                if (notes.holder[copy] != house) {
                    continue;
                }
                if (houses.gold[THE_BANK] < NOTE) {
                    stopped = day;
                } else {
                    houses.gold[THE_BANK] -= NOTE;
                    houses.gold[house] += NOTE;
                    notes.markIn(copy);
                    notes.moveTo(copy, THE_BANK);
                    came++;
                }
            }
            return came;
        }

        void fail(int paper, int house, int how) {
            houses.fall(house, day, paper, papers.holder[paper], how);
            papers.killThoseOf(house);
        }

        // ---- papers

        int lendable(int bill) {
            return papers.sum[bill] * within(lawSays(LAW_LEND, bill), 0, 100) / 100;
        }

        int takePledge(int bill, int lent, int days) {
            int house = papers.holder[bill];
            int sum = lent + lent * rate * days / 36000;
            transfer(THE_BANK, house, lent);
            int pledge = papers.addPaper(PLEDGE, house, THE_BANK, sum, day + days);
            if (pledge != NONE) {
                papers.pledged[pledge] = bill;
                papers.made[pledge] = day;
                papers.inPledge[bill] = 1;
                papers.holder[bill] = THE_BANK;
            }
            return pledge;
        }

        // Answers the price, 0 if the bill is refused.
        int offer(int bill) {
            int seller = papers.holder[bill];
            int buyer = houses.banker[seller];
            if (buyer == THE_BANK) {
                int price = papers.priceAt(bill, rate, day);
                if (lawSays(LAW_BUY, bill) == 0 || !bankCan(price)) {
                    refused++;
                    return 0;
                }
                transfer(THE_BANK, seller, price);
                papers.sellOn(bill, THE_BANK);
                return price;
            }
            int price = papers.priceAt(bill, rate + 1, day);
            if (!houses.isUp(buyer) || coin(buyer) - price < houses.min[buyer]
                    || !houseCan(buyer, seller, price)) {
                return 0;
            }
            transfer(buyer, seller, price);
            papers.sellOn(bill, buyer);
            return price;
        }

        // Answers whether the deposit is paid.
        boolean askDeposit(int paper) {
            int debtor = papers.debtor[paper];
            int holder = papers.holder[paper];
            if (houseCan(debtor, holder, papers.sum[paper])) {
                transfer(debtor, holder, papers.sum[paper]);
                papers.payOff(paper);
                return true;
            }
            fail(paper, debtor, BY_ASKING);
            return false;
        }

        private void settle(int paper) {
            int debtor = papers.debtor[paper];
            int holder = papers.holder[paper];
            int sum = papers.sum[paper];
            boolean isUp = houses.isUp(debtor);
            if (isUp && papers.byTrade[paper] == 1) {
                houses.gold[debtor] += sum * seasons.filled(HARVEST, day / WEEK_DAYS) / 100;
            }
            if (holder == debtor || (isUp && houseCan(debtor, holder, sum))) {
                transfer(debtor, holder, sum);
                papers.payOff(paper);
                return;
            }
            if (isUp) {
                fail(paper, debtor, BY_DUE);
            }
            if (papers.kind[paper] == BILL) {
                papers.state[paper] = PROTESTED;
                papers.strikeHolder(paper);
                setAskDay(paper);
            }
        }

        private void askName(int bill) {
            int at = papers.nameThatAnswers(bill);
            if (at == NONE) {
                return;
            }
            int name = papers.names[bill * NAMES + at];
            papers.nameCount[bill] = at;
            if (houses.isUp(name)) {
                int holder = papers.holder[bill];
                if (houseCan(name, holder, papers.sum[bill])) {
                    transfer(name, holder, papers.sum[bill]);
                    papers.holder[bill] = name;
                } else {
                    fail(bill, name, BY_NAME);
                }
            }
            setAskDay(bill);
        }

        private void setAskDay(int bill) {
            int at = papers.nameThatAnswers(bill);
            if (at == NONE) {
                papers.state[bill] = DEAD;
                papers.askDay[bill] = NONE;
                return;
            }
            int town = houses.town[papers.holder[bill]];
            int far = farFrom(papers.names[bill * NAMES + at], town);
            papers.askDay[bill] = day + (far == NONE ? 30 : Math.max(1, far));
        }

        // ---- what is heard

        int heardFailures(int house, int byDay) {
            int n = 0;
            for (int i = 1; i < houses.size; i++) {
                int fell = houses.downDay[i];
                if (fell != NONE && fell >= byDay - HEARD_DAYS) {
                    int far = farFrom(house, houses.town[i]);
                    n += far != NONE && fell + far <= byDay ? 1 : 0;
                }
            }
            return n;
        }

        int sheetCount() {
            return day / WEEK_DAYS;
        }

        int heardSheet(int house, int byDay) {
            int far = farFrom(house, houses.town[THE_BANK]);
            int since = byDay - far - (WEEK_DAYS - 1);
            if (far == NONE || since < 0) {
                return NONE;
            }
            return Math.min(since / WEEK_DAYS, sheetCount() - 1);
        }

        int heardReserve(int house, int byDay) {
            int week = heardSheet(house, byDay);
            return week == NONE ? NONE : records.sheets[week * SHEET_NUMBERS + SHEET_RESERVE];
        }

        // ---- a day

        void passDays(int n, boolean followsRule) {
            for (int i = 0; i < n && day < DAYS; i++) {
                if (day % WEEK_DAYS == 0) {
                    drawTrades();
                }
                payDue();
                askNames();
                sellBills();
                runOnBanks();
                if (day % WEEK_DAYS == WEEK_DAYS - 1) {
                    endWeek(followsRule);
                }
                day++;
            }
        }

        private void drawTrades() {
            for (int i = 0; i < trades.size && !papers.isFull(); i++) {
                int buyer = trades.buyer[i];
                int seller = trades.seller[i];
                int sum = trades.base[i] * (100 - 2 * rate) / 100;
                if (trades.goes[i] == 1 && houses.isUp(buyer) && houses.isUp(seller) && sum > 0) {
                    int bill = papers.addPaper(BILL, buyer, seller, sum, day + trades.term[i]);
                    if (bill != NONE) {
                        papers.byTrade[bill] = 1;
                    }
                }
            }
        }

        private void payDue() {
            for (int i = 0; i < papers.end; i++) {
                if (papers.state[i] == LIVE && papers.due[i] == day) {
                    settle(i);
                }
            }
        }

        private void askNames() {
            for (int i = 0; i < papers.end; i++) {
                if (papers.state[i] == PROTESTED && papers.askDay[i] == day) {
                    askName(i);
                }
            }
        }

        // A bill that was turned away stays with its house, so each house can begin anew.
        private void sellBills() {
            for (int house = 1; house < houses.size; house++) {
                if (!houses.isUp(house) || coin(house) >= houses.min[house]) {
                    continue;
                }
                papers.forgetTurnedAway();
                int bill = papers.nextToSell(house, day);
                for (int i = 0; i < papers.end && bill != NONE; i++) {
                    papers.turnedAway[bill] = offer(bill) == 0;
                    bill = coin(house) < houses.min[house] ? papers.nextToSell(house, day) : NONE;
                }
            }
        }

        private void runOnBanks() {
            for (int house = 1; house < houses.size; house++) {
                if (!houses.isUp(house)) {
                    continue;
                }
                if (houses.fallen > houses.bold[house]
                        && heardFailures(house, day) > houses.bold[house]) {
                    askDepositsOf(house);
                }
                if (houses.care[house] > 0 && stopped == NONE) {
                    int reserve = heardReserve(house, day);
                    if (reserve != NONE && reserve < houses.care[house]) {
                        presentCopies(house, COPIES);
                    }
                }
            }
        }

        private void askDepositsOf(int house) {
            for (int i = 0; i < papers.end; i++) {
                if (papers.kind[i] == DEPOSIT && papers.state[i] == LIVE
                        && papers.holder[i] == house) {
                    askDeposit(i);
                }
            }
        }

        private void endWeek(boolean followsRule) {
            sendShips();
            writeSheet();
            if (followsRule) {
                rate = within(lawSays(LAW_RATE, NONE), 0, RATE_MOST);
            }
        }

        private void sendShips() {
            int x = flow * (rate - seasons.filled(ABROAD, day / WEEK_DAYS));
            int after = houses.gold[THE_BANK] + x;
            houses.gold[THE_BANK] = Math.max(0, after);
            if (after < 0 && stopped == NONE) {
                stopped = day;
            }
        }

        private void writeSheet() {
            int hide = Math.max(0, lawSays(LAW_HIDE, NONE));
            int show = lawSays(LAW_SHOW, NONE);
            int bills = 0;
            int lent = 0;
            for (int i = 0; i < papers.end; i++) {
                if (papers.state[i] == LIVE && papers.holder[i] == THE_BANK) {
                    boolean isPledge = papers.kind[i] == PLEDGE;
                    if (isPledge && day - papers.made[i] > hide) {
                        lent += papers.sum[i];
                    } else if (isPledge || papers.inPledge[i] == 0) {
                        bills += papers.sum[i];
                    }
                }
            }
            int at = day / WEEK_DAYS * SHEET_NUMBERS;
            records.sheets[at] = houses.gold[THE_BANK];
            records.sheets[at + 1] = NOTE * notes.out;
            records.sheets[at + 2] = bills;
            records.sheets[at + 3] = lent;
            records.sheets[at + 4] = rate;
            records.sheets[at + SHEET_RESERVE] = reserve();
            for (int i = 0; i < SHEET_NUMBERS; i++) {
                if ((show >> i & 1) == 0) {
                    records.sheets[at + i] = NONE;
                }
            }
        }
    }

    /** What claims get. */
    private static final class Claims {
        static final int TURNS_MOST = 1000000;

        final int[] share = new int[PAPERS];
        final int[] wealth = new int[HOUSES];
        final int[] deposits = new int[HOUSES];
        final int[] others = new int[HOUSES];

        // More for one claim never means less for another, so that each can be worked anew by
        // itself: all end where they end if they are worked together.
        void shareOut(World world) {
            begin(world);
            boolean changes = true;
            for (int i = 0; i < TURNS_MOST && changes; i++) {
                changes = improve(world);
            }
        }

        private void begin(World world) {
            Papers papers = world.papers;
            for (int house = 0; house < HOUSES; house++) {
                wealth[house] = world.coin(house);
                deposits[house] = 0;
                others[house] = 0;
            }
            for (int i = 0; i < papers.end; i++) {
                share[i] = 0;
                if (papers.kind[i] == NONE) {
                    continue;
                }
                int debtor = papers.debtor[i];
                if (world.houses.isUp(debtor)) {
                    wealth[papers.holder[i]] += papers.sum[i];
                } else if (papers.kind[i] == DEPOSIT) {
                    deposits[debtor] += papers.sum[i];
                } else {
                    others[debtor] += papers.sum[i];
                }
            }
        }

        private boolean improve(World world) {
            Papers papers = world.papers;
            boolean changes = false;
            for (int i = 0; i < papers.end; i++) {
                if (papers.kind[i] != NONE && !world.houses.isUp(papers.debtor[i])) {
                    int now = shareOf(papers, i);
                    if (now != share[i]) {
                        wealth[papers.holder[i]] += now - share[i];
                        share[i] = now;
                        changes = true;
                    }
                }
            }
            return changes;
        }

        private int shareOf(Papers papers, int paper) {
            int debtor = papers.debtor[paper];
            int left = wealth[debtor];
            int all = deposits[debtor];
            if (papers.kind[paper] != DEPOSIT) {
                if (left < all) {
                    return 0;
                }
                left -= all;
                all = others[debtor];
            }
            if (left >= all) {
                return papers.sum[paper];
            }
            return all > 0 ? (int) ((long) papers.sum[paper] * left / all) : 0;
        }
    }
}
