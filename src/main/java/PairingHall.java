import java.util.Arrays;

/**
 * A hall of tournaments, as ../shared/DOC.md promises it.
 *
 * Every row is made once, in the constructors, and used again by all calls: no call makes an object.
 */
public final class PairingHall {
    public static final int NONE = -1, BAD = -2, NO = -3, FULL = -4, FINDING = -5, FAILED = -6;

    private static final int MEMBER = 0, GUEST = 1, JUNIOR = 2, TEAM = 3, BYE = 4;
    private static final int NOBODY = 1, BEYOND = 2, UNLIKE = 3, SHARED = 4, SIZE = 5, SHORT = 6;
    private static final int MEMBER_WORTH = 10, GUEST_WORTH = 11, JUNIOR_WORTH = 12, TEAM_WORTH = 13;
    private static final int PLAIN_STEP = 20, JUNIOR_STEP = 22, TEAM_STEP = 23;
    private static final int BLACK_WON = 0, EVEN = 1, WHITE_WON = 2, NO_WHITE = 3, NO_BLACK = 4;
    private static final int PUT_OFF = 5, LAST_OUTCOME = 6;
    private static final int OUT = 0, IN = 1, WITHDRAWN = 2;

    private static final int MAX_PLAYERS = 24, MAX_BASE = 3000, MAX_GUEST_WORTH = 1500;
    private static final int MAX_PLACES = 4, MAX_TRACE = 200;
    private static final int MAX_TOURNAMENTS = 4, MAX_IN = 10, MAX_ROUNDS = 6, MAX_ENTRIES = 60;
    private static final int MAX_SUMS = 4, LAST_SORT = 5, MAX_OPEN = 4;
    private static final int MAX_PAIRS = 5, CELLS = 30;
    private static final int MAX_PLANS = 4, MAX_STEPS = 10, STEP_WIDTH = 5, MAX_DONE = 60;
    private static final int LAST_ACT = 11, STEPS_OF_PLAN = 11;

    /** Stands for the black PLAYER of a PAIR with nobody. */
    private static final int EMPTY_CHAIR = 99;
    /** No day is behind this one, so what is asked on it is asked of whatever DAY. */
    private static final int LAST_DAY = 2147483647;

    private final Log log = new Log();
    private final Roster roster = new Roster();
    private final Roster savedRoster = new Roster();
    private final Tournament[] tournaments = new Tournament[MAX_TOURNAMENTS];
    private final Tournament[] savedTournaments = new Tournament[MAX_TOURNAMENTS];
    private final Table table = new Table();
    private final Drawing drawing = new Drawing();
    private final Ratings ratings = new Ratings();
    private final Plans plans = new Plans();
    private final Report report = new Report();
    private final int[] foundRow = new int[MAX_OPEN];
    private int foundLength = 0;
    private int tournamentCount = 0;
    private int savedCount = 0;
    private int latestSerial = 0;

    public PairingHall() {
        for (int t = 0; t < MAX_TOURNAMENTS; t++) {
            tournaments[t] = new Tournament();
            savedTournaments[t] = new Tournament();
        }
    }

    // ---- PLAYERS

    public int player(int kind, int base) {
        if (kind < MEMBER || kind > BYE || base < 0 || base > MAX_BASE) {
            return BAD;
        }
        return roster.add(kind, base);
    }

    public int places(int p, int n) {
        if (!roster.has(p) || n > MAX_PLACES) {
            return BAD;
        }
        if (!roster.isTeam(p)) {
            return log.met(UNLIKE);
        }
        if (n < 0) {
            return log.met(SIZE);
        }
        roster.setPlaces(p, n);
        return n;
    }

    public int seat(int p, int place, int who) {
        if (!roster.has(p) || who != NONE && !roster.has(who)) {
            return BAD;
        }
        if (!roster.isTeam(p) || who != NONE && roster.isTeam(who)) {
            return log.met(UNLIKE);
        }
        int chair = roster.chairOf(p, place, log);
        if (chair < 0) {
            return chair;
        }
        roster.chairs[chair] = who;
        return 1;
    }

    public int held(int p, int place) {
        if (!roster.has(p)) {
            return BAD;
        }
        if (!roster.isTeam(p)) {
            return log.met(UNLIKE);
        }
        int chair = roster.chairOf(p, place, log);
        return chair < 0 ? chair : roster.chairs[chair];
    }

    public int worth(int p) {
        log.clear();
        return askWorth(p);
    }

    public int stepOf(int p) {
        log.clear();
        return roster.has(p) ? roster.stepFor(p, log) : BAD;
    }

    public int trace(int i) {
        return i >= 0 && i < log.length ? log.numbers[i] : NONE;
    }

    private int askWorth(int p) {
        return roster.has(p) ? roster.worthFor(p, log) : BAD;
    }

    // ---- TOURNAMENTS

    public int tournament() {
        if (tournamentCount >= MAX_TOURNAMENTS) {
            return FULL;
        }
        tournaments[tournamentCount].clear();
        return openNext();
    }

    public int enter(int t, int p) {
        if (!isTournament(t) || !roster.has(p)) {
            return BAD;
        }
        Tournament it = tournaments[t];
        if (it.hasIn(p) || it.roundCount > 0) {
            return NO;
        }
        if (it.inCount >= MAX_IN) {
            return FULL;
        }
        if (!roster.isRated(p)) {
            return log.met(UNLIKE);
        }
        return it.letIn(p);
    }

    public int withdraw(int t, int p) {
        if (!isTournament(t) || !roster.has(p)) {
            return BAD;
        }
        Tournament it = tournaments[t];
        if (it.status[p] != IN) {
            return NO;
        }
        it.status[p] = WITHDRAWN;
        return 1;
    }

    public int rule(int t, int i, int what) {
        if (!isTournament(t) || i < 1 || i > MAX_SUMS || what < 0 || what > LAST_SORT) {
            return BAD;
        }
        int[] sorts = tournaments[t].sorts;
        int before = sorts[i];
        sorts[i] = what;
        return before;
    }

    public int draw(int t, int day) {
        log.clear();
        return drawRound(t, day);
    }

    public int pair(int t, int r, int k, int what) {
        if (!isTournament(t)) {
            return BAD;
        }
        Tournament it = tournaments[t];
        int cell = it.cellOf(r, k, log);
        if (cell < 0) {
            return cell;
        }
        if (what < 0 || what > 1) {
            return log.met(BEYOND);
        }
        return what == 0 ? it.white[cell] : it.black[cell];
    }

    public int round(int t, int r, int what) {
        if (!isTournament(t) || what < 0 || what > 3) {
            return BAD;
        }
        Tournament it = tournaments[t];
        int row = it.roundOf(r, log);
        if (row < 0) {
            return row;
        }
        switch (what) {
            case 0:
                return it.days[row];
            case 1:
                return it.sizes[row];
            case 2:
                return it.costs[row];
            default:
                return Drawing.brokenIn(it.costs[row]);
        }
    }

    public int copy(int t) {
        if (!isTournament(t)) {
            return BAD;
        }
        if (tournamentCount >= MAX_TOURNAMENTS) {
            return FULL;
        }
        tournaments[tournamentCount].takeOver(tournaments[t]);
        return openNext();
    }

    public int alike(int t, int u) {
        if (!isTournament(t) || !isTournament(u)) {
            return BAD;
        }
        return tournaments[t].isLike(tournaments[u]) ? 1 : 0;
    }

    private boolean isTournament(int t) {
        return t >= 0 && t < tournamentCount;
    }

    private int openNext() {
        latestSerial++;
        tournaments[tournamentCount].serial = latestSerial;
        tournamentCount++;
        return tournamentCount - 1;
    }

    private int drawRound(int t, int day) {
        if (!isTournament(t) || day < 0) {
            return BAD;
        }
        Tournament it = tournaments[t];
        if (day < it.latestDay()) {
            return BAD;
        }
        if (drawing.gather(it) < 2) {
            return NO;
        }
        if (it.roundCount >= MAX_ROUNDS) {
            return FULL;
        }
        if (!drawing.askWorths(roster, log)) {
            return FINDING;
        }
        table.read(it, day, day);
        table.score(it, day);
        drawing.recall(it);
        drawing.priceAll(table.scores);
        drawing.findWay();
        return drawing.writeRound(it, day);
    }

    // ---- ENTRIES

    public int tell(int t, int r, int k, int outcome, int day, int known) {
        if (!isTournament(t) || outcome < 0 || outcome > LAST_OUTCOME || day < 0 || known < 0) {
            return BAD;
        }
        Tournament it = tournaments[t];
        int cell = it.cellOf(r, k, log);
        if (cell < 0) {
            return cell;
        }
        if (it.black[cell] == EMPTY_CHAIR) {
            return NO;
        }
        return it.addEntry(cell, outcome, day, known);
    }

    public int takeBack(int t, int entry, int known) {
        if (!isTournament(t) || known < 0) {
            return BAD;
        }
        Tournament it = tournaments[t];
        if (entry < 0 || entry >= it.entryCount || known < it.entryKnown[entry]) {
            return BAD;
        }
        if (it.entryBack[entry] != NONE) {
            return NO;
        }
        it.entryBack[entry] = known;
        return 1;
    }

    public int counts(int t, int r, int k, int knowing) {
        if (!isTournament(t) || knowing < 0) {
            return BAD;
        }
        Tournament it = tournaments[t];
        int cell = it.cellOf(r, k, log);
        if (cell < 0) {
            return cell;
        }
        table.read(it, LAST_DAY, knowing);
        return table.counting[cell];
    }

    public int points(int t, int p, int day, int knowing) {
        int refusal = refuseAsking(t, p, day, knowing);
        if (refusal != 0) {
            return refusal;
        }
        Tournament it = tournaments[t];
        table.read(it, day, knowing);
        table.score(it, day);
        return table.scores[p];
    }

    public int sum(int t, int p, int what, int day, int knowing) {
        if (what < 1 || what > LAST_SORT) {
            return BAD;
        }
        int refusal = refuseAsking(t, p, day, knowing);
        if (refusal != 0) {
            return refusal;
        }
        makeTable(t, day, knowing);
        return table.amountOf(what, p);
    }

    public int place(int t, int p, int day, int knowing) {
        int refusal = refuseAsking(t, p, day, knowing);
        if (refusal != 0) {
            return refusal;
        }
        makeTable(t, day, knowing);
        return table.aheadOf(tournaments[t], p) + 1;
    }

    public int standing(int t, int k, int day, int knowing) {
        if (!isTournament(t) || day < 0 || knowing < 0) {
            return BAD;
        }
        makeTable(t, day, knowing);
        return table.whoIs(tournaments[t], k);
    }

    public int why(int t, int a, int b, int day, int knowing) {
        int refusal = refuseAsking(t, a, day, knowing);
        int other = refuseAsking(t, b, day, knowing);
        if (refusal == BAD || other == BAD) {
            return BAD;
        }
        if (refusal != 0 || other != 0) {
            return NO;
        }
        makeTable(t, day, knowing);
        return table.parting(tournaments[t], a, b);
    }

    /** 0, if a PLAYER of a TOURNAMENT may be asked for on these days. */
    private int refuseAsking(int t, int p, int day, int knowing) {
        if (!isTournament(t) || !roster.has(p) || day < 0 || knowing < 0) {
            return BAD;
        }
        return tournaments[t].hasIn(p) ? 0 : NO;
    }

    private void makeTable(int t, int day, int knowing) {
        Tournament it = tournaments[t];
        table.read(it, day, knowing);
        table.score(it, day);
        table.tally(it);
    }

    // ---- RATINGS, and what could still be

    public int rated(int t, int p, int r, int knowing) {
        log.clear();
        if (r < NONE || r >= MAX_ROUNDS) {
            return BAD;
        }
        int refusal = refuseAsking(t, p, LAST_DAY, knowing);
        if (refusal != 0) {
            return refusal;
        }
        Tournament it = tournaments[t];
        if (!ratings.begin(it, roster, log)) {
            return FINDING;
        }
        table.read(it, LAST_DAY, knowing);
        for (int i = 0; i <= r; i++) {
            if (i >= it.roundCount) {
                return log.met(NOBODY);
            }
            ratings.goThrough(it, i, table.outcomes, roster, log);
        }
        return ratings.values[p];
    }

    public int mean(int t) {
        log.clear();
        if (!isTournament(t)) {
            return BAD;
        }
        Tournament it = tournaments[t];
        if (!ratings.begin(it, roster, log)) {
            return FINDING;
        }
        if (it.inCount == 0) {
            return log.met(SHARED);
        }
        return ratings.total(it) / it.inCount;
    }

    public int could(int t, int p, int alone, int knowing) {
        if (alone < 0 || alone > 1) {
            return BAD;
        }
        int refusal = refuseAsking(t, p, LAST_DAY, knowing);
        if (refusal != 0) {
            return refusal;
        }
        Tournament it = tournaments[t];
        table.read(it, LAST_DAY, knowing);
        int open = table.listOpen(it);
        if (open > MAX_OPEN) {
            return NO;
        }
        int ways = 1;
        for (int i = 0; i < open; i++) {
            ways *= 3;
        }
        for (int way = 0; way < ways; way++) {
            table.suppose(way, open);
            if (table.isFirst(it, p, alone == 1)) {
                keepFound(open);
                return 1;
            }
        }
        return 0;
    }

    public int found(int i) {
        return i >= 0 && i < foundLength ? foundRow[i] : NONE;
    }

    private void keepFound(int open) {
        foundLength = open;
        for (int i = 0; i < open; i++) {
            foundRow[i] = table.outcomes[table.open[i]];
        }
    }

    // ---- PLANS

    public int step(int plan, int act, int a, int b, int c, int d) {
        if (!isPlan(plan) || act < 0 || act > LAST_ACT) {
            return BAD;
        }
        int at = plans.openRow(plan);
        if (at < 0) {
            return FULL;
        }
        plans.rows[at] = act;
        plans.rows[at + 1] = a;
        plans.rows[at + 2] = b;
        plans.rows[at + 3] = c;
        plans.rows[at + 4] = d;
        return plans.lengths[plan];
    }

    public int empty(int plan) {
        if (!isPlan(plan)) {
            return BAD;
        }
        int had = plans.lengths[plan];
        plans.lengths[plan] = 0;
        return had;
    }

    public int run(int plan) {
        log.clear();
        if (!isPlan(plan)) {
            return BAD;
        }
        save();
        report.begin();
        if (runSteps(plan)) {
            return 1;
        }
        restore();
        return FAILED;
    }

    public int ran(int what) {
        switch (what) {
            case 0:
                return report.answer;
            case 1:
                return report.plan;
            case 2:
                return report.at;
            case 3:
                return report.done;
            default:
                return BAD;
        }
    }

    private static boolean isPlan(int plan) {
        return plan >= 0 && plan < MAX_PLANS;
    }

    private static boolean fails(int answer) {
        return answer == BAD || answer == NO || answer == FULL || answer == FINDING;
    }

    private void save() {
        savedRoster.takeOver(roster);
        savedCount = tournamentCount;
        for (int t = 0; t < tournamentCount; t++) {
            savedTournaments[t].takeOver(tournaments[t]);
        }
    }

    /** SERIALS stay: a TOURNAMENT that was there ahead of the RUN has never lost its own. */
    private void restore() {
        roster.takeOver(savedRoster);
        tournamentCount = savedCount;
        for (int t = 0; t < savedCount; t++) {
            tournaments[t].takeOver(savedTournaments[t]);
        }
    }

    /** Comes back to itself for lesser PLANS alone, so at most four stand open at once. */
    private boolean runSteps(int plan) {
        plans.tries[plan]++;
        for (int i = 0; i < plans.lengths[plan]; i++) {
            int at = plans.rowOf(plan, i);
            int lesser = plans.rows[at + 1];
            if (plans.rows[at] == STEPS_OF_PLAN && lesser >= 0 && lesser < plan) {
                if (!runSteps(lesser)) {
                    return false;
                }
                continue;
            }
            int answer = perform(at);
            if (fails(answer)) {
                report.tellFailure(answer, plan, i);
                return false;
            }
            report.done++;
        }
        return true;
    }

    /** A STEP 11 comes here only if its PLAN is not a lesser one. */
    private int perform(int at) {
        int act = plans.rows[at];
        if (act == STEPS_OF_PLAN) {
            return BAD;
        }
        if (report.done >= MAX_DONE) {
            return FULL;
        }
        int a = plans.rows[at + 1];
        int b = plans.rows[at + 2];
        int c = plans.rows[at + 3];
        int d = plans.rows[at + 4];
        switch (act) {
            case 0:
                return player(a, b);
            case 1:
                return places(a, b);
            case 2:
                return seat(a, b, c);
            case 3:
                return tournament();
            case 4:
                return enter(a, b);
            case 5:
                return withdraw(a, b);
            case 6:
                return drawRound(a, b);
            case 7:
                return tell(a, b / 10, b % 10, c, d, d);
            case 8:
                return takeBack(a, b, c);
            case 9:
                return askWorth(a);
            default:
                return need(a, b, c, d);
        }
    }

    private int need(int t, int p, int day, int atLeast) {
        int has = points(t, p, day, day);
        if (fails(has)) {
            return has;
        }
        return has < atLeast ? log.met(SHORT) : has;
    }

    // ---- What is told of all

    public int finding() {
        return log.latest;
    }

    public int told(int what) {
        switch (what) {
            case 0:
                return roster.count;
            case 1:
                return tournamentCount;
            case 2:
                return latestSerial;
            case 3:
                return log.length;
            default:
                return what < 10 ? BAD : tellOf(what / 10, what % 10);
        }
    }

    private int tellOf(int sort, int k) {
        if (sort == 1) {
            return isPlan(k) ? plans.tries[k] : BAD;
        }
        if (!isTournament(k)) {
            return BAD;
        }
        Tournament it = tournaments[k];
        switch (sort) {
            case 2:
                return it.inCount;
            case 3:
                return it.roundCount;
            case 4:
                return it.entryCount;
            case 5:
                return it.serial;
            default:
                return BAD;
        }
    }

    /** THE TRACE and the latest FINDING: what no RUN that fails takes back. */
    private static final class Log {
        final int[] numbers = new int[MAX_TRACE];
        int length = 0;
        int latest = 0;

        void clear() {
            length = 0;
        }

        void write(int body) {
            if (length < MAX_TRACE) {
                numbers[length] = body;
                length++;
            }
        }

        int met(int what) {
            latest = what;
            return FINDING;
        }
    }

    /** All PLAYERS. */
    private static final class Roster {
        final int[] kinds = new int[MAX_PLAYERS];
        final int[] bases = new int[MAX_PLAYERS];
        /** How many PLACES a TEAM has; NONE: none were told. */
        final int[] sizes = new int[MAX_PLAYERS];
        final int[] chairs = new int[MAX_PLAYERS * MAX_PLACES];
        int count = 0;

        boolean has(int p) {
            return p >= 0 && p < count;
        }

        boolean isTeam(int p) {
            return kinds[p] == TEAM;
        }

        boolean isRated(int p) {
            return kinds[p] != BYE;
        }

        int add(int kind, int base) {
            if (count >= MAX_PLAYERS) {
                return FULL;
            }
            kinds[count] = kind;
            bases[count] = base;
            sizes[count] = NONE;
            count++;
            return count - 1;
        }

        void setPlaces(int p, int n) {
            sizes[p] = n;
            for (int i = 0; i < n; i++) {
                chairs[p * MAX_PLACES + i] = NONE;
            }
        }

        int chairOf(int p, int i, Log log) {
            if (sizes[p] == NONE) {
                return log.met(NOBODY);
            }
            if (i < 0 || i >= sizes[p]) {
                return log.met(BEYOND);
            }
            return p * MAX_PLACES + i;
        }

        int worthFor(int p, Log log) {
            if (!isTeam(p)) {
                return soloWorth(p, log);
            }
            log.write(TEAM_WORTH);
            int size = sizes[p];
            if (size == NONE) {
                return log.met(NOBODY);
            }
            int total = 0;
            for (int i = 0; i < size; i++) {
                int who = chairs[p * MAX_PLACES + i];
                int value = who == NONE ? log.met(NOBODY) : soloWorth(who, log);
                if (value < 0) {
                    return value;
                }
                total += value;
            }
            return size == 0 ? log.met(SHARED) : total / size;
        }

        /** A JUNIOR's asks that of the MEMBER who he is, too: so both write. */
        private int soloWorth(int p, Log log) {
            switch (kinds[p]) {
                case MEMBER:
                    log.write(MEMBER_WORTH);
                    return bases[p];
                case GUEST:
                    log.write(GUEST_WORTH);
                    return Math.min(bases[p], MAX_GUEST_WORTH);
                case JUNIOR:
                    log.write(JUNIOR_WORTH);
                    log.write(MEMBER_WORTH);
                    return bases[p] + 25;
                default:
                    return log.met(UNLIKE);
            }
        }

        int stepFor(int p, Log log) {
            switch (kinds[p]) {
                case MEMBER:
                case GUEST:
                    log.write(PLAIN_STEP);
                    return 20;
                case JUNIOR:
                    log.write(JUNIOR_STEP);
                    log.write(PLAIN_STEP);
                    return 2 * 20;
                case TEAM:
                    log.write(TEAM_STEP);
                    return 10;
                default:
                    return log.met(UNLIKE);
            }
        }

        void takeOver(Roster other) {
            count = other.count;
            System.arraycopy(other.kinds, 0, kinds, 0, count);
            System.arraycopy(other.bases, 0, bases, 0, count);
            System.arraycopy(other.sizes, 0, sizes, 0, count);
            System.arraycopy(other.chairs, 0, chairs, 0, count * MAX_PLACES);
        }
    }

    /** A TOURNAMENT. PAIR k of ROUND r stands in cell r * MAX_PAIRS + k. */
    private static final class Tournament {
        int serial = 0;
        int inCount = 0;
        int roundCount = 0;
        int entryCount = 0;
        final int[] came = new int[MAX_IN];
        /** By PLAYERS: OUT, IN or WITHDRAWN. */
        final int[] status = new int[MAX_PLAYERS];
        /** SUMS 1 to 4; number 0 is not used. */
        final int[] sorts = new int[MAX_SUMS + 1];
        final int[] days = new int[MAX_ROUNDS];
        final int[] sizes = new int[MAX_ROUNDS];
        final int[] costs = new int[MAX_ROUNDS];
        final int[] white = new int[CELLS];
        final int[] black = new int[CELLS];
        final int[] entryCell = new int[MAX_ENTRIES];
        final int[] entryOutcome = new int[MAX_ENTRIES];
        final int[] entryDay = new int[MAX_ENTRIES];
        final int[] entryKnown = new int[MAX_ENTRIES];
        /** From when on it is TAKEN BACK; NONE: it is not. */
        final int[] entryBack = new int[MAX_ENTRIES];

        /** A number may have been had by a TOURNAMENT of a RUN that failed. */
        void clear() {
            inCount = 0;
            roundCount = 0;
            entryCount = 0;
            Arrays.fill(status, OUT);
            Arrays.fill(sorts, 0);
        }

        boolean hasIn(int p) {
            return status[p] != OUT;
        }

        int letIn(int p) {
            status[p] = IN;
            came[inCount] = p;
            inCount++;
            return inCount;
        }

        int latestDay() {
            return roundCount == 0 ? 0 : days[roundCount - 1];
        }

        int roundOf(int r, Log log) {
            if (r < 0 || r >= MAX_ROUNDS) {
                return log.met(BEYOND);
            }
            return r >= roundCount ? log.met(NOBODY) : r;
        }

        int cellOf(int r, int k, Log log) {
            int row = roundOf(r, log);
            if (row < 0) {
                return row;
            }
            if (k < 0 || k >= sizes[row]) {
                return log.met(BEYOND);
            }
            return row * MAX_PAIRS + k;
        }

        int addEntry(int cell, int outcome, int day, int known) {
            if (entryCount >= MAX_ENTRIES) {
                return FULL;
            }
            entryCell[entryCount] = cell;
            entryOutcome[entryCount] = outcome;
            entryDay[entryCount] = day;
            entryKnown[entryCount] = known;
            entryBack[entryCount] = NONE;
            entryCount++;
            return entryCount - 1;
        }

        boolean isKnown(int entry, int knowing) {
            boolean takenBack = entryBack[entry] != NONE && entryBack[entry] <= knowing;
            return entryKnown[entry] <= knowing && !takenBack;
        }

        /** All but the SERIAL, which is never given twice. */
        void takeOver(Tournament other) {
            inCount = other.inCount;
            roundCount = other.roundCount;
            entryCount = other.entryCount;
            int cells = roundCount * MAX_PAIRS;
            System.arraycopy(other.came, 0, came, 0, inCount);
            System.arraycopy(other.status, 0, status, 0, MAX_PLAYERS);
            System.arraycopy(other.sorts, 0, sorts, 0, MAX_SUMS + 1);
            System.arraycopy(other.days, 0, days, 0, roundCount);
            System.arraycopy(other.sizes, 0, sizes, 0, roundCount);
            System.arraycopy(other.costs, 0, costs, 0, roundCount);
            System.arraycopy(other.white, 0, white, 0, cells);
            System.arraycopy(other.black, 0, black, 0, cells);
            System.arraycopy(other.entryCell, 0, entryCell, 0, entryCount);
            System.arraycopy(other.entryOutcome, 0, entryOutcome, 0, entryCount);
            System.arraycopy(other.entryDay, 0, entryDay, 0, entryCount);
            System.arraycopy(other.entryKnown, 0, entryKnown, 0, entryCount);
            System.arraycopy(other.entryBack, 0, entryBack, 0, entryCount);
        }

        boolean isLike(Tournament other) {
            return inCount == other.inCount
                    && roundCount == other.roundCount
                    && entryCount == other.entryCount
                    && isSame(came, other.came, 0, inCount)
                    && isSame(status, other.status, 0, MAX_PLAYERS)
                    && isSame(sorts, other.sorts, 0, MAX_SUMS + 1)
                    && hasLikeRounds(other)
                    && hasLikeEntries(other);
        }

        private boolean hasLikeRounds(Tournament other) {
            if (!isSame(days, other.days, 0, roundCount)
                    || !isSame(sizes, other.sizes, 0, roundCount)
                    || !isSame(costs, other.costs, 0, roundCount)) {
                return false;
            }
            for (int r = 0; r < roundCount; r++) {
                int from = r * MAX_PAIRS;
                int to = from + sizes[r];
                if (!isSame(white, other.white, from, to) || !isSame(black, other.black, from, to)) {
                    return false;
                }
            }
            return true;
        }

        private boolean hasLikeEntries(Tournament other) {
            return isSame(entryCell, other.entryCell, 0, entryCount)
                    && isSame(entryOutcome, other.entryOutcome, 0, entryCount)
                    && isSame(entryDay, other.entryDay, 0, entryCount)
                    && isSame(entryKnown, other.entryKnown, 0, entryCount)
                    && isSame(entryBack, other.entryBack, 0, entryCount);
        }

        private static boolean isSame(int[] one, int[] other, int from, int to) {
            for (int i = from; i < to; i++) {
                if (one[i] != other[i]) {
                    return false;
                }
            }
            return true;
        }
    }

    /** POINTS and SUMS of all who are IN a TOURNAMENT, and who is AHEAD of whom. */
    private static final class Table {
        /** By cells: the ENTRY that counts, or NONE. */
        final int[] counting = new int[CELLS];
        /** By cells: the OUTCOME that counts and is of the DAY or before, or NONE. */
        final int[] outcomes = new int[CELLS];
        final int[] open = new int[MAX_OPEN];
        final int[] scores = new int[MAX_PLAYERS];
        final int[] foeCount = new int[MAX_PLAYERS];
        final int[] foeTotal = new int[MAX_PLAYERS];
        final int[] foeLeast = new int[MAX_PLAYERS];
        final int[] foeMost = new int[MAX_PLAYERS];
        final int[] wins = new int[MAX_PLAYERS];
        final int[] levelHalves = new int[MAX_PLAYERS];
        final int[] blacks = new int[MAX_PLAYERS];

        void read(Tournament it, int day, int knowing) {
            Arrays.fill(counting, NONE);
            for (int e = 0; e < it.entryCount; e++) {
                int cell = it.entryCell[e];
                int rival = counting[cell];
                if (it.isKnown(e, knowing)
                        && (rival == NONE || it.entryKnown[rival] <= it.entryKnown[e])) {
                    counting[cell] = e;
                }
            }
            for (int cell = 0; cell < CELLS; cell++) {
                int e = counting[cell];
                outcomes[cell] = e == NONE || it.entryDay[e] > day ? NONE : it.entryOutcome[e];
            }
        }

        void score(Tournament it, int day) {
            Arrays.fill(scores, 0);
            for (int r = 0; r < it.roundCount; r++) {
                for (int k = 0; k < it.sizes[r]; k++) {
                    int cell = r * MAX_PAIRS + k;
                    if (it.black[cell] != EMPTY_CHAIR) {
                        scores[it.white[cell]] += whiteHalves(outcomes[cell]);
                        scores[it.black[cell]] += blackHalves(outcomes[cell]);
                    } else if (it.days[r] <= day) {
                        scores[it.white[cell]] += 2;
                    }
                }
            }
        }

        static int whiteHalves(int outcome) {
            if (outcome == EVEN) {
                return 1;
            }
            return outcome == WHITE_WON || outcome == NO_BLACK ? 2 : 0;
        }

        static int blackHalves(int outcome) {
            if (outcome == EVEN) {
                return 1;
            }
            return outcome == BLACK_WON || outcome == NO_WHITE ? 2 : 0;
        }

        static boolean isPlayed(int outcome) {
            return outcome == BLACK_WON || outcome == EVEN || outcome == WHITE_WON;
        }

        /** Needs the POINTS of all, so it comes behind score(). */
        void tally(Tournament it) {
            Arrays.fill(foeCount, 0);
            Arrays.fill(foeTotal, 0);
            Arrays.fill(wins, 0);
            Arrays.fill(levelHalves, 0);
            Arrays.fill(blacks, 0);
            for (int r = 0; r < it.roundCount; r++) {
                for (int k = 0; k < it.sizes[r]; k++) {
                    int cell = r * MAX_PAIRS + k;
                    if (it.black[cell] != EMPTY_CHAIR) {
                        tallyPair(it.white[cell], it.black[cell], outcomes[cell]);
                    }
                }
            }
        }

        private void tallyPair(int white, int black, int outcome) {
            addFoe(white, scores[black]);
            addFoe(black, scores[white]);
            if (outcome == WHITE_WON) {
                wins[white]++;
            }
            if (outcome == BLACK_WON) {
                wins[black]++;
            }
            if (scores[white] == scores[black]) {
                levelHalves[white] += whiteHalves(outcome);
                levelHalves[black] += blackHalves(outcome);
            }
            if (isPlayed(outcome)) {
                blacks[black]++;
            }
        }

        private void addFoe(int p, int foeScore) {
            boolean isFirst = foeCount[p] == 0;
            foeLeast[p] = isFirst ? foeScore : Math.min(foeLeast[p], foeScore);
            foeMost[p] = isFirst ? foeScore : Math.max(foeMost[p], foeScore);
            foeTotal[p] += foeScore;
            foeCount[p]++;
        }

        int amountOf(int sort, int p) {
            switch (sort) {
                case 1:
                    return foeTotal[p];
                case 2:
                    return foeCount[p] < 3 ? 0 : foeTotal[p] - foeLeast[p] - foeMost[p];
                case 3:
                    return wins[p];
                case 4:
                    return levelHalves[p];
                default:
                    return blacks[p];
            }
        }

        /** 0, if they are alike; else it ends with 1, if a is AHEAD, and with 2, if b is. */
        int parting(Tournament it, int a, int b) {
            if (scores[a] != scores[b]) {
                return scores[a] > scores[b] ? 1 : 2;
            }
            for (int i = 1; i <= MAX_SUMS; i++) {
                int sort = it.sorts[i];
                int ofA = sort == 0 ? 0 : amountOf(sort, a);
                int ofB = sort == 0 ? 0 : amountOf(sort, b);
                if (ofA != ofB) {
                    return 10 * i + (ofA > ofB ? 1 : 2);
                }
            }
            return 0;
        }

        int aheadOf(Tournament it, int p) {
            int ahead = 0;
            for (int i = 0; i < it.inCount; i++) {
                if (parting(it, it.came[i], p) % 10 == 1) {
                    ahead++;
                }
            }
            return ahead;
        }

        int whoIs(Tournament it, int k) {
            for (int i = 0; i < it.inCount; i++) {
                int p = it.came[i];
                if (aheadOf(it, p) + lesserAlike(it, p) == k) {
                    return p;
                }
            }
            return NONE;
        }

        private int lesserAlike(Tournament it, int p) {
            int alikes = 0;
            for (int i = 0; i < it.inCount; i++) {
                int q = it.came[i];
                if (q < p && parting(it, q, p) == 0) {
                    alikes++;
                }
            }
            return alikes;
        }

        /** How many are OPEN; only the first MAX_OPEN of them are listed. */
        int listOpen(Tournament it) {
            int count = 0;
            for (int r = 0; r < it.roundCount; r++) {
                for (int k = 0; k < it.sizes[r]; k++) {
                    int cell = r * MAX_PAIRS + k;
                    boolean isOpen = counting[cell] == NONE || outcomes[cell] == PUT_OFF;
                    if (it.black[cell] != EMPTY_CHAIR && isOpen) {
                        if (count < MAX_OPEN) {
                            open[count] = cell;
                        }
                        count++;
                    }
                }
            }
            return count;
        }

        /** The OUTCOMES are the digits of the way to base 3, the first OPEN PAIR in front: so ways come in order. */
        void suppose(int way, int openCount) {
            int rest = way;
            for (int i = openCount - 1; i >= 0; i--) {
                outcomes[open[i]] = rest % 3;
                rest /= 3;
            }
        }

        private boolean isOutscored(Tournament it, int p) {
            for (int i = 0; i < it.inCount; i++) {
                if (scores[it.came[i]] > scores[p]) {
                    return true;
                }
            }
            return false;
        }

        /** Most ways end at the POINTS, so the SUMS are only told where these do not part. */
        boolean isFirst(Tournament it, int p, boolean alone) {
            score(it, LAST_DAY);
            if (isOutscored(it, p)) {
                return false;
            }
            tally(it);
            for (int i = 0; i < it.inCount; i++) {
                int q = it.came[i];
                int parts = parting(it, q, p);
                if (q != p && (parts % 10 == 1 || alone && parts == 0)) {
                    return false;
                }
            }
            return true;
        }
    }

    /** The search of all ways for a ROUND. Those who are drawn have spots 0, 1, .. by their numbers. */
    private static final class Drawing {
        private static final int BROKEN = 1000000;
        private static final int UNBOUNDED = 2147483647;
        private static final int WHITE = 1, BLACK = -1;
        /** The spot of nobody, and how long a row of spots with it is. */
        private static final int NO_SPOT = MAX_IN, WIDTH = MAX_IN + 1;

        final int[] who = new int[MAX_IN];
        final int[] spotOf = new int[MAX_PLAYERS];
        final int[] worths = new int[MAX_IN];
        final int[] balance = new int[MAX_IN];
        final int[] latest = new int[MAX_IN];
        final int[] latestButOne = new int[MAX_IN];
        final boolean[] pairedBefore = new boolean[MAX_IN * WIDTH];
        final boolean[] isTurned = new boolean[MAX_IN * WIDTH];
        final int[] prices = new int[MAX_IN * WIDTH];
        final int[] partner = new int[MAX_IN];
        final int[] bestPartner = new int[MAX_IN];
        int size = 0;
        int bestCost = 0;

        /** All other costs of five PAIRS stay far below that of one BROKEN rule. */
        static int brokenIn(int cost) {
            return cost / BROKEN;
        }

        int gather(Tournament it) {
            size = 0;
            for (int p = 0; p < MAX_PLAYERS; p++) {
                spotOf[p] = NONE;
                if (it.status[p] == IN && size < MAX_IN) {
                    spotOf[p] = size;
                    who[size] = p;
                    size++;
                }
            }
            return size;
        }

        boolean askWorths(Roster roster, Log log) {
            for (int i = 0; i < size; i++) {
                worths[i] = roster.worthFor(who[i], log);
                if (worths[i] < 0) {
                    return false;
                }
            }
            return true;
        }

        void recall(Tournament it) {
            Arrays.fill(balance, 0);
            Arrays.fill(latest, 0);
            Arrays.fill(latestButOne, 0);
            for (int i = 0; i < MAX_IN * WIDTH; i++) {
                pairedBefore[i] = false;
            }
            for (int r = 0; r < it.roundCount; r++) {
                for (int k = 0; k < it.sizes[r]; k++) {
                    int cell = r * MAX_PAIRS + k;
                    recallPair(it.white[cell], it.black[cell]);
                }
            }
        }

        private void recallPair(int white, int black) {
            int i = spotOf[white];
            if (black == EMPTY_CHAIR) {
                recallSpot(i, NO_SPOT);
                return;
            }
            int j = spotOf[black];
            recallSpot(i, j);
            recallSpot(j, i);
            recallColour(i, WHITE);
            recallColour(j, BLACK);
        }

        private void recallSpot(int i, int j) {
            if (i != NONE && j != NONE) {
                pairedBefore[i * WIDTH + j] = true;
            }
        }

        private void recallColour(int i, int colour) {
            if (i != NONE) {
                balance[i] += colour;
                latestButOne[i] = latest[i];
                latest[i] = colour;
            }
        }

        void priceAll(int[] scores) {
            int least = UNBOUNDED;
            for (int i = 0; i < size; i++) {
                least = Math.min(least, scores[who[i]]);
            }
            for (int i = 0; i < size; i++) {
                prices[i * WIDTH + NO_SPOT] = basePrice(i, NO_SPOT, scores[who[i]] - least);
                for (int j = i + 1; j < size; j++) {
                    priceTwo(i, j, scores[who[i]] - scores[who[j]]);
                }
            }
        }

        private int basePrice(int i, int j, int apart) {
            return 200 * apart * apart + (pairedBefore[i * WIDTH + j] ? BROKEN : 0);
        }

        private void priceTwo(int i, int j, int apart) {
            int straight = colourPrice(i, WHITE) + colourPrice(j, BLACK);
            int turned = colourPrice(i, BLACK) + colourPrice(j, WHITE);
            int at = i * WIDTH + j;
            isTurned[at] = turned < straight;
            prices[at] = basePrice(i, j, apart)
                    + Math.abs(worths[i] - worths[j]) / 10
                    + Math.min(straight, turned);
        }

        private int colourPrice(int i, int colour) {
            boolean tips = balance[i] * colour > 0;
            boolean third = latest[i] == colour && latestButOne[i] == colour;
            return (tips ? 40 : 0) + (third ? BROKEN : 0);
        }

        void findWay() {
            Arrays.fill(partner, NONE);
            bestCost = UNBOUNDED;
            search(0, size % 2 == 1, 0);
        }

        /** Goes through the ways in their order, so of like ones the first is kept. */
        private void search(int spent, boolean nobodyIsFree, int depth) {
            if (spent >= bestCost || depth > MAX_IN) {
                return;
            }
            int i = firstFree();
            if (i == NONE) {
                bestCost = spent;
                System.arraycopy(partner, 0, bestPartner, 0, MAX_IN);
                return;
            }
            for (int j = i + 1; j < size; j++) {
                if (partner[j] == NONE) {
                    partner[i] = j;
                    partner[j] = i;
                    search(spent + prices[i * WIDTH + j], nobodyIsFree, depth + 1);
                    partner[j] = NONE;
                }
            }
            if (nobodyIsFree) {
                partner[i] = NO_SPOT;
                search(spent + prices[i * WIDTH + NO_SPOT], false, depth + 1);
            }
            partner[i] = NONE;
        }

        private int firstFree() {
            for (int i = 0; i < size; i++) {
                if (partner[i] == NONE) {
                    return i;
                }
            }
            return NONE;
        }

        int writeRound(Tournament it, int day) {
            int r = it.roundCount;
            int cell = r * MAX_PAIRS;
            for (int i = 0; i < size; i++) {
                int j = bestPartner[i];
                if (j > i) {
                    boolean turned = j != NO_SPOT && isTurned[i * WIDTH + j];
                    int other = j == NO_SPOT ? EMPTY_CHAIR : who[j];
                    it.white[cell] = turned ? other : who[i];
                    it.black[cell] = turned ? who[i] : other;
                    cell++;
                }
            }
            it.days[r] = day;
            it.sizes[r] = cell - r * MAX_PAIRS;
            it.costs[r] = bestCost;
            it.roundCount++;
            return it.sizes[r];
        }
    }

    /** RATINGS of all who are IN, ROUND by ROUND. */
    private static final class Ratings {
        final int[] values = new int[MAX_PLAYERS];

        /** Asks the WORTHS of all who are IN, by their numbers; false: a FINDING was met. */
        boolean begin(Tournament it, Roster roster, Log log) {
            for (int p = 0; p < MAX_PLAYERS; p++) {
                if (it.hasIn(p)) {
                    values[p] = roster.worthFor(p, log);
                    if (values[p] < 0) {
                        return false;
                    }
                }
            }
            return true;
        }

        int total(Tournament it) {
            int total = 0;
            for (int i = 0; i < it.inCount; i++) {
                total += values[it.came[i]];
            }
            return total;
        }

        void goThrough(Tournament it, int r, int[] outcomes, Roster roster, Log log) {
            for (int k = 0; k < it.sizes[r]; k++) {
                int cell = r * MAX_PAIRS + k;
                int outcome = outcomes[cell];
                int white = it.white[cell];
                int black = it.black[cell];
                if (black != EMPTY_CHAIR && Table.isPlayed(outcome)) {
                    int apart = values[white] - values[black];
                    int whiteStep = roster.stepFor(white, log);
                    int blackStep = roster.stepFor(black, log);
                    values[white] += gain(whiteStep, Table.whiteHalves(outcome), apart);
                    values[black] += gain(blackStep, Table.blackHalves(outcome), -apart);
                }
            }
        }

        private static int gain(int step, int halves, int apart) {
            int bounded = Math.max(-400, Math.min(400, apart));
            int due = 500 + 5 * bounded / 4;
            return roundThousandths(step * (500 * halves - due));
        }

        private static int roundThousandths(int thousandths) {
            int whole = Math.floorDiv(thousandths, 1000);
            int rest = Math.floorMod(thousandths, 1000);
            boolean isOdd = whole % 2 != 0;
            return rest > 500 || rest == 500 && isOdd ? whole + 1 : whole;
        }
    }

    /** The rows of STEPS, and TRIES. */
    private static final class Plans {
        final int[] lengths = new int[MAX_PLANS];
        final int[] tries = new int[MAX_PLANS];
        final int[] rows = new int[MAX_PLANS * MAX_STEPS * STEP_WIDTH];

        int rowOf(int plan, int i) {
            return (plan * MAX_STEPS + i) * STEP_WIDTH;
        }

        int openRow(int plan) {
            int length = lengths[plan];
            if (length >= MAX_STEPS) {
                return NONE;
            }
            lengths[plan] = length + 1;
            return rowOf(plan, length);
        }
    }

    /** Of the latest RUN. */
    private static final class Report {
        int answer = 0;
        int plan = NONE;
        int at = NONE;
        int done = 0;

        void begin() {
            answer = 0;
            plan = NONE;
            at = NONE;
            done = 0;
        }

        void tellFailure(int failedAnswer, int failedPlan, int failedAt) {
            answer = failedAnswer;
            plan = failedPlan;
            at = failedAt;
        }
    }
}
