import java.util.ArrayList;
import java.util.List;

/** The calls of the document, answered by the Model: refusals in the order of each promise. */
final class ModelCalls {
    static final int MISSING = Model.MISSING;
    static final int BEYOND = Model.BEYOND;
    static final int BELOW = Model.BELOW;
    static final int KIND = Model.KIND;
    static final int COPY = Model.COPY;
    static final int NO = Model.NO;
    static final int FULL = Model.FULL;
    static final int NONE = Model.NONE;
    static final String[] KEYS = {"out", "rate", "buy", "lend", "hide", "show", "lift"};

    final Model m = new Model();

    int call(String name, int... a) {
        switch (name) {
            case "town":
                if (m.s.towns == 8) {
                    return m.no(FULL);
                }
                return m.s.towns++;
            case "road": return road(a[0], a[1], a[2]);
            case "far":
                return m.town(a[0]) && m.town(a[1]) ? m.distance(a[0], a[1]) : m.no(BEYOND);
            case "house": return house(a[0], a[1]);
            case "gold":
                if (!m.house(a[0])) {
                    return m.no(BEYOND);
                }
                if (a[1] < 0 || a[1] > 10000 || !m.up(a[0])) {
                    return m.no(NO);
                }
                return m.s.houses.get(a[0]).gold += a[1];
            case "mind": return mind(a[0], a[1], a[2]);
            case "bold": return bold(a[0], a[1]);
            case "look": return look(a[0], a[1]);
            case "down":
                if (!m.house(a[0])) {
                    return m.no(BEYOND);
                }
                if (m.up(a[0])) {
                    return m.no(MISSING);
                }
                return a[1] < 0 || a[1] > 3 ? m.no(NO) : m.s.houses.get(a[0]).down[a[1]];
            case "give": return give(a[0], a[1], a[2]);
            case "present": return present(a[0], a[1]);
            case "burn":
                if (a[0] < 0 || a[0] > 299) {
                    return m.no(BEYOND);
                }
                if (m.s.numbers[a[0]] != 2) {
                    return m.no(NO);
                }
                m.s.numbers[a[0]] = 3;
                return m.countNumbers(3);
            case "forge": return forge(a[0], a[1]);
            case "number": return a[0] < 0 || a[0] > 299 ? m.no(BEYOND) : m.s.numbers[a[0]];
            case "copyAt": {
                Model.Note n = note(a[0], a[1]);
                return n == null ? m.no(BEYOND) : n.holder;
            }
            case "trail": {
                Model.Note n = note(a[0], a[1]);
                boolean is = n != null && a[2] >= 0 && a[2] < 8 && a[2] < n.trail.size();
                return is ? n.trail.get(a[2]) : m.no(BEYOND);
            }
            case "found":
                if (a[0] < 0 || a[0] >= 60 || a[0] >= m.s.found.size()) {
                    return m.no(BEYOND);
                }
                return a[1] < 0 || a[1] > 2 ? m.no(NO) : m.s.found.get(a[0])[a[1]];
            default: return callOfPapers(name, a);
        }
    }

    private int callOfPapers(String name, int... a) {
        switch (name) {
            case "promise": return drawn(0, a);
            case "bill": return drawn(1, a);
            case "deposit": return deposit(a[0], a[1], a[2]);
            case "help": return help(a[0], a[1]);
            case "sell":
                if (!m.paper(a[0])) {
                    return m.no(BEYOND);
                }
                if (m.s.papers[a[0]].kind != 1 || m.s.papers[a[0]].holder == 0) {
                    return m.no(KIND);
                }
                if (!m.up(m.s.papers[a[0]].holder) || !m.maySell(m.s.papers[a[0]])) {
                    return m.no(NO);
                }
                return m.offerIt(m.s.papers[a[0]]);
            case "ask":
                if (!m.paper(a[0])) {
                    return m.no(BEYOND);
                }
                if (m.s.papers[a[0]].kind != 2) {
                    return m.no(KIND);
                }
                if (m.s.papers[a[0]].state != 0 || !m.up(m.s.papers[a[0]].holder)) {
                    return m.no(NO);
                }
                return m.askIt(a[0]) ? 1 : 0;
            case "of": return of(a[0], a[1]);
            case "name":
                if (!m.paper(a[0])) {
                    return m.no(BEYOND);
                }
                if (m.s.papers[a[0]].kind != 1) {
                    return m.no(KIND);
                }
                return a[1] < 0 || a[1] >= m.s.papers[a[0]].names.size()
                        ? m.no(BEYOND) : m.s.papers[a[0]].names.get(a[1]);
            case "price":
                if (!m.paper(a[0])) {
                    return m.no(BEYOND);
                }
                if (m.s.papers[a[0]].kind != 1) {
                    return m.no(KIND);
                }
                if (m.s.papers[a[0]].state != 0 || a[1] < 0 || a[1] > 30) {
                    return m.no(NO);
                }
                return m.priceOf(m.s.papers[a[0]], a[1]);
            case "gets":
                if (!m.paper(a[0])) {
                    return m.no(BEYOND);
                }
                if (m.up(m.s.papers[a[0]].debtor)) {
                    return m.no(MISSING);
                }
                m.workClaims();
                return m.claimGets[a[0]];
            case "assets":
                if (!m.house(a[0])) {
                    return m.no(BEYOND);
                }
                if (m.up(a[0])) {
                    return m.no(MISSING);
                }
                m.workClaims();
                return m.houseAssets[a[0]];
            default: return callOfTrade(name, a);
        }
    }

    private int callOfTrade(String name, int... a) {
        switch (name) {
            case "trade": return trade(a[0], a[1], a[2], a[3]);
            case "goesOn": {
                if (a[0] < 0 || a[0] >= m.s.trades.size()) {
                    return m.no(BEYOND);
                }
                if (a[1] != 0 && a[1] != 1) {
                    return m.no(NO);
                }
                int before = m.s.trades.get(a[0])[4];
                m.s.trades.get(a[0])[4] = a[1];
                return before;
            }
            case "tell": {
                if (a[0] < 0 || a[0] > 1 || a[1] < 0 || a[1] > 51) {
                    return m.zero(BEYOND);
                }
                if (a[2] < -1 || a[2] > (a[0] == 0 ? 200 : 20)) {
                    return m.zero(NO);
                }
                int before = m.s.seasons[a[0]][a[1]];
                m.s.seasons[a[0]][a[1]] = a[2];
                return before;
            }
            case "read": {
                if (a[0] < 0 || a[0] > 1) {
                    return m.no(BEYOND);
                }
                if (m.row == null) {
                    return m.no(MISSING);
                }
                int stand = 0;
                for (int i = 0; i < Math.min(52, m.row.length); i++) {
                    boolean fits = m.row[i] >= 0 && m.row[i] <= (a[0] == 0 ? 200 : 20);
                    m.s.seasons[a[0]][i] = fits ? m.row[i] : NONE;
                    stand += fits ? 1 : 0;
                }
                return stand;
            }
            case "week":
                return a[0] < 0 || a[0] > 1 || a[1] < 0 ? m.no(BEYOND) : m.season(a[0], a[1]);
            case "flow": {
                if (a[0] < 0 || a[0] > 100) {
                    return m.no(NO);
                }
                int before = m.s.flow;
                m.s.flow = a[0];
                return before;
            }
            case "rate": {
                if (a[0] < 0 || a[0] > 20 || m.whichText("rate", null) != NONE) {
                    return m.no(NO);
                }
                int before = m.s.rate;
                m.s.rate = a[0];
                return before;
            }
            case "run": {
                if (a[0] < 0) {
                    return m.no(BELOW);
                }
                if (a[0] == 0 || a[0] > 70) {
                    return m.no(NO);
                }
                if (m.s.day + a[0] > 700) {
                    return m.no(FULL);
                }
                int before = m.downs();
                for (int i = 0; i < a[0]; i++) {
                    m.aDay(true);
                }
                return m.downs() - before;
            }
            case "sheet":
                if (a[0] < 0 || a[0] >= m.s.sheets.size()) {
                    return m.no(BEYOND);
                }
                return a[1] < 0 || a[1] > 5 ? m.no(NO) : m.s.sheets.get(a[0])[a[1]];
            case "knew":
                if (!m.house(a[0]) || a[2] < 0 || a[2] > m.s.day) {
                    return m.no(BEYOND);
                }
                return a[1] == 0 ? m.failuresHeard(a[0], a[2])
                        : a[1] == 1 ? m.sheetHeard(a[0], a[2])
                        : a[1] == 2 ? m.reserveHeard(a[0], a[2]) : m.no(NO);
            case "count": return count(a[0]);
            default: return callOfTexts(name, a);
        }
    }

    private int callOfTexts(String name, int... a) {
        switch (name) {
            case "feed":
                if (a[1] < 0) {
                    return m.no(BELOW);
                }
                if (a[1] > 4) {
                    return m.no(NO);
                }
                if (m.tape.size() + a[1] > 120) {
                    return m.no(FULL);
                }
                for (int i = a[1] - 1; i >= 0; i--) {
                    m.tape.add((a[0] >>> (8 * i)) & 255);
                }
                return m.tape.size();
            case "wipe": {
                int had = m.tape.size();
                m.tape.clear();
                return had;
            }
            case "text": {
                if (a[0] < 0 || a[0] > 1000 || a[1] < 0 || a[1] > 1000 || a[0] >= a[1]) {
                    return m.no(NO);
                }
                if (m.s.texts.size() == 12) {
                    return m.no(FULL);
                }
                ModelReader reader = new ModelReader(m.tape);
                int fault = reader.fault();
                if (fault >= 0) {
                    return -10 - fault;
                }
                reader.text.from = a[0];
                reader.text.to = a[1];
                m.s.texts.add(reader.text);
                m.tape.clear();
                return m.s.texts.size() - 1;
            }
            case "says": {
                int fault = question(a[0], a[1]);
                if (fault != 0) {
                    return m.zero(fault);
                }
                Model.Paper bill = a[1] == NONE ? null : m.s.papers[a[1]];
                if (a[0] == 1 && m.whichText("rate", bill) == NONE) {
                    return m.zero(MISSING);
                }
                return m.law(KEYS[a[0]], bill);
            }
            case "why": {
                int fault = question(a[0], a[1]);
                if (fault != 0) {
                    return m.no(fault);
                }
                return m.whichText(KEYS[a[0]], a[1] == NONE ? null : m.s.papers[a[1]]);
            }
            default: return callOfTries(name, a);
        }
    }

    private int callOfTries(String name, int... a) {
        switch (name) {
            case "attempt": return attempt(a[0], a[1], a[2]);
            case "plan": return plan(a[0], a[1]);
            case "judge": return judge();
            case "image":
                m.image = m.s.twin();
                return m.s.day;
            case "back":
                if (m.image == null) {
                    return m.no(MISSING);
                }
                m.s = m.image.twin();
                return m.s.day;
            case "lay":
                if (a[0] < 0) {
                    return m.no(BELOW);
                }
                if (a[0] > 60) {
                    return m.no(NO);
                }
                m.row = new int[a[0]];
                return a[0];
            case "set": {
                if (m.row == null) {
                    return m.zero(MISSING);
                }
                if (a[0] < 0 || a[0] >= m.row.length) {
                    return m.zero(BEYOND);
                }
                int before = m.row[a[0]];
                m.row[a[0]] = a[1];
                return before;
            }
            case "tear": {
                int was = m.row == null ? 0 : 1;
                m.row = null;
                return was;
            }
            case "row":
                if (m.row == null) {
                    return m.zero(MISSING);
                }
                return a[0] < 0 || a[0] >= m.row.length ? m.zero(BEYOND) : m.row[a[0]];
            case "copy": {
                if (m.row == null) {
                    return m.no(MISSING);
                }
                if (a[2] < 0) {
                    return m.no(BELOW);
                }
                if (a[0] < 0 || a[1] < 0 || (long) a[0] + a[2] > m.row.length
                        || (long) a[1] + a[2] > m.row.length) {
                    return m.no(COPY);
                }
                int[] was = m.row.clone();
                for (int i = 0; i < a[2]; i++) {
                    m.row[a[1] + i] = was[a[0] + i];
                }
                return a[2];
            }
            case "status": return a[0] > -2 || a[0] < -8 ? m.no(NO) : m.refusals[-a[0]];
            default: throw new IllegalArgumentException(name);
        }
    }

    private int road(int a, int b, int days) {
        if (!m.town(a) || !m.town(b)) {
            return m.no(BEYOND);
        }
        if (a == b || days < 1 || days > 30) {
            return m.no(NO);
        }
        if (m.s.roads.size() == 16) {
            return m.no(FULL);
        }
        m.s.roads.add(new int[] {a, b, days});
        return m.s.roads.size();
    }

    private int house(int kind, int town) {
        if (!m.town(town)) {
            return m.no(BEYOND);
        }
        if (kind != 0 && kind != 1) {
            return m.no(KIND);
        }
        if (m.s.houses.size() == 16) {
            return m.no(FULL);
        }
        Model.House h = new Model.House();
        h.kind = kind;
        h.town = town;
        m.s.houses.add(h);
        return m.s.houses.size() - 1;
    }

    private int mind(int house, int min, int banker) {
        if (!m.house(house) || !m.house(banker)) {
            return m.no(BEYOND);
        }
        Model.House h = m.s.houses.get(house);
        if (house == 0 || m.s.houses.get(banker).kind <= h.kind) {
            return m.no(KIND);
        }
        if (min < 0 || min > 9999) {
            return m.no(NO);
        }
        int before = h.min;
        h.min = min;
        h.banker = banker;
        return before;
    }

    private int bold(int house, int told) {
        if (!m.house(house)) {
            return m.no(BEYOND);
        }
        if (house == 0) {
            return m.no(KIND);
        }
        if (told < 0 || told > 9999) {
            return m.no(NO);
        }
        Model.House h = m.s.houses.get(house);
        int before = 1000 * h.bold + h.care;
        h.bold = told / 1000;
        h.care = told % 1000;
        return before;
    }

    private int look(int house, int what) {
        if (!m.house(house)) {
            return m.no(BEYOND);
        }
        Model.House h = m.s.houses.get(house);
        int holds = 0;
        int owes = 0;
        for (Model.Paper p : m.s.papers) {
            holds += p != null && p.holder == house ? 1 : 0;
            owes += p != null && p.debtor == house ? 1 : 0;
        }
        switch (what) {
            case 0: return h.kind;
            case 1: return h.town;
            case 2: return h.gold;
            case 3: return m.holds(house).size();
            case 4: return m.up(house) ? 1 : 0;
            case 5: return h.min;
            case 6: return h.banker;
            case 7: return m.coin(house);
            case 8: return holds;
            case 9: return owes;
            default: return m.no(NO);
        }
    }

    private int give(int from, int to, int sum) {
        if (!m.house(from) || !m.house(to)) {
            return m.no(BEYOND);
        }
        if (sum < 1 || sum > 9999 || from == to || !m.up(from) || !m.up(to)
                || !m.can(from, to, sum)) {
            return m.no(NO);
        }
        m.hand(from, to, sum);
        return m.s.houses.get(from).gold;
    }

    private int present(int house, int n) {
        if (!m.house(house)) {
            return m.no(BEYOND);
        }
        if (house == 0) {
            return m.no(KIND);
        }
        if (n < 1 || n > 400 || !m.up(house) || m.s.stopped != NONE) {
            return m.no(NO);
        }
        return m.presents(house, n);
    }

    private int forge(int house, int number) {
        if (!m.house(house) || number < 0 || number > 299) {
            return m.no(BEYOND);
        }
        if (house == 0) {
            return m.no(KIND);
        }
        if (m.s.numbers[number] == 0 || !m.up(house)) {
            return m.no(NO);
        }
        if (m.s.notes.size() == 400) {
            return m.no(FULL);
        }
        Model.Note n = new Model.Note();
        n.number = number;
        for (Model.Note other : m.s.notes) {
            n.copy += other.number == number ? 1 : 0;
        }
        n.goesTo(house);
        m.s.notes.add(n);
        return n.copy;
    }

    private Model.Note note(int number, int copy) {
        for (Model.Note n : m.s.notes) {
            if (n.number == number && n.copy == copy) {
                return n;
            }
        }
        return null;
    }

    private int drawn(int kind, int... a) {
        if (!m.house(a[0]) || !m.house(a[1])) {
            return m.no(BEYOND);
        }
        if (a[0] == 0 || a[1] == 0) {
            return m.no(KIND);
        }
        if (a[2] < 1 || a[2] > 9999 || a[3] < 1 || a[3] > 60 || a[0] == a[1]
                || !m.up(a[0]) || !m.up(a[1])) {
            return m.no(NO);
        }
        return m.free() == NONE ? m.no(FULL) : m.open(kind, a[0], a[1], a[2], m.s.day + a[3]);
    }

    private int deposit(int holder, int bank, int sum) {
        if (!m.house(holder) || !m.house(bank)) {
            return m.no(BEYOND);
        }
        if (holder == 0 || m.s.houses.get(bank).kind != 1) {
            return m.no(KIND);
        }
        if (sum < 1 || sum > 9999 || holder == bank || !m.up(holder) || !m.up(bank)
                || !m.can(holder, bank, sum)) {
            return m.no(NO);
        }
        if (m.free() == NONE) {
            return m.no(FULL);
        }
        m.hand(holder, bank, sum);
        return m.open(2, bank, holder, sum, NONE);
    }

    private int help(int paper, int days) {
        if (!m.paper(paper)) {
            return m.no(BEYOND);
        }
        Model.Paper bill = m.s.papers[paper];
        if (bill.kind != 1 || bill.holder == 0) {
            return m.no(KIND);
        }
        int house = bill.holder;
        int lend = Math.min(100, Math.max(0, m.law("lend", bill)));
        int lent = bill.sum * lend / 100;
        if (days < 1 || days > 60 || bill.state != 0 || !m.up(house)
                || days >= bill.due - m.s.day || lent == 0 || !m.can(0, house, lent)) {
            return m.no(NO);
        }
        if (m.free() == NONE) {
            return m.no(FULL);
        }
        m.hand(0, house, lent);
        int interest = lent * m.s.rate * days / 36000;
        int at = m.open(3, house, 0, lent + interest, m.s.day + days);
        m.s.papers[at].bill = paper;
        m.s.papers[at].made = m.s.day;
        bill.inPledge = true;
        bill.holder = 0;
        return at;
    }

    private int of(int paper, int what) {
        if (!m.paper(paper)) {
            return m.no(BEYOND);
        }
        Model.Paper p = m.s.papers[paper];
        switch (what) {
            case 0: return p.kind;
            case 1: return p.sum;
            case 2: return p.debtor;
            case 3: return p.holder;
            case 4: return p.kind == 2 ? NONE : p.due;
            case 5: return p.state;
            case 6: return p.kind == 1 ? p.names.size() : 0;
            case 7: return p.inPledge ? 1 : 0;
            case 8: return p.kind == 3 ? p.bill : NONE;
            case 9: return p.state == 1 ? p.asked : NONE;
            case 10: return p.byTrade ? 1 : 0;
            default: return m.no(NO);
        }
    }

    private int trade(int buyer, int seller, int base, int days) {
        if (!m.house(buyer) || !m.house(seller)) {
            return m.no(BEYOND);
        }
        if (m.s.houses.get(buyer).kind != 0 || m.s.houses.get(seller).kind != 0) {
            return m.no(KIND);
        }
        if (base < 1 || base > 9999 || days < 1 || days > 60 || buyer == seller) {
            return m.no(NO);
        }
        if (m.s.trades.size() == 8) {
            return m.no(FULL);
        }
        m.s.trades.add(new int[] {buyer, seller, base, days, 1});
        return m.s.trades.size() - 1;
    }

    private int question(int key, int paper) {
        if (key < 0 || key > 6 || (paper != NONE && !m.paper(paper))) {
            return BEYOND;
        }
        return paper != NONE && m.s.papers[paper].kind != 1 ? KIND : 0;
    }

    private int count(int what) {
        int used = 0;
        for (Model.Paper p : m.s.papers) {
            used += p != null ? 1 : 0;
        }
        int[] all = {m.s.day, m.s.towns, m.s.houses.size(), m.s.roads.size(), used,
            m.s.trades.size(), m.s.texts.size(), m.tape.size(), m.out(), m.countNumbers(2),
            m.countNumbers(3), m.s.found.size(), m.s.refused, m.downs(), m.s.stopped, m.s.rate,
            m.law("lift", null) != 0 ? 1 : 0, m.reserve()};
        return what < 0 || what >= all.length ? m.no(NO) : all[what];
    }

    private int attempt(int rates, int weeks, int what) {
        if (what < 0 || what > 4) {
            return m.no(BEYOND);
        }
        int[] told = weeks < 1 || weeks > 4 ? null : Model.digits(rates, weeks);
        if (told == null) {
            return m.no(NO);
        }
        if (m.s.day + 7 * weeks > 700) {
            return m.no(FULL);
        }
        int[] row = m.tryRow(told);
        int[] last = {row[row.length - 3], row[row.length - 2], row[row.length - 1],
            m.tried.refused - m.s.refused, m.tried.stopped != NONE ? 1 : 0};
        return last[what];
    }

    private int plan(int rates, int weeks) {
        int[] four = weeks < 1 || weeks > 4 ? null : Model.digits(rates, 4);
        if (four == null) {
            return m.no(NO);
        }
        if (m.s.day + 7 * weeks > 700) {
            return m.no(FULL);
        }
        List<int[]> all = new ArrayList<>();
        all.add(new int[0]);
        for (int w = 0; w < weeks; w++) {
            List<int[]> longer = new ArrayList<>();
            for (int[] head : all) {
                for (int r : four) {
                    int[] next = java.util.Arrays.copyOf(head, w + 1);
                    next[w] = r;
                    longer.add(next);
                }
            }
            all = longer;
        }
        int[] best = null;
        int[] bestOutcome = null;
        for (int[] told : all) {
            int[] row = m.tryRow(told);
            int[] outcome = {m.tried.stopped != NONE ? 1 : 0, row[row.length - 1],
                m.tried.refused - m.s.refused};
            if (best == null || java.util.Arrays.compare(outcome, bestOutcome) < 0) {
                best = row;
                bestOutcome = outcome;
            }
        }
        m.row = best;
        return bestOutcome[1];
    }

    private int judge() {
        if (m.row == null) {
            return m.no(MISSING);
        }
        int n = m.row.length;
        if (n != 4 && n != 8 && n != 12 && n != 16) {
            return m.no(KIND);
        }
        if (m.s.day + 7 * n / 4 > 700) {
            return m.no(FULL);
        }
        List<Integer> rates = new ArrayList<>();
        for (int at = 0; at < n; at += 4) {
            if (m.row[at] < 0 || m.row[at] > 20) {
                return at;
            }
            rates.add(m.row[at]);
            int[] told = rates.stream().mapToInt(x -> x).toArray();
            int[] row = m.tryRow(told);
            for (int i = at; i < at + 4; i++) {
                if (row[i] != m.row[i]) {
                    return i;
                }
            }
        }
        return NONE;
    }
}
