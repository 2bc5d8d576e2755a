/**
 * An almshouse: brethren who wait and are chosen by voices, cells, feasts, a chest, gowns, rules of the founder,
 * bans and pardons, orders as texts, undo and a snapshot.
 */
public final class PittanceHouse {
    public static final int NONE = -11;
    public static final int BAD = -12;
    public static final int FULL = -13;
    public static final int REFUSED = -14;
    public static final int NOTHING = -15;

    private static final int BRETHREN_MOST = 16;
    private static final int AGE_LEAST = 50;
    private static final int AGE_MOST = 90;
    private static final int CELLS = 8;
    private static final int RULES = 5;
    private static final int BREACHES_TO_GO = 3;
    private static final int WEEKS_OF_YEAR = 52;
    private static final int WEEKS_MOST = 60;
    private static final int FEASTS_MOST = 6;
    private static final int PITTANCE_MOST = 9;
    private static final int PARDONS_MOST = 2;
    private static final int GIFT_MOST = 500;
    private static final int CHEST_FIRST = 100;
    private static final int CHEST_MOST = 9999;
    private static final int RENT = 2;
    private static final int GOWN_PRICE = 8;
    private static final int GOWN_IS_OLD = 2;
    private static final int CODE_LEAST = 32;
    private static final int CODE_MOST = 126;
    private static final int TEXT_MOST = 60;
    private static final int LINE_MOST = 128;
    private static final int CHANGES_KEPT = 8;
    private static final int FAULT_BASE = -1000;

    // How a brother is; who has not come is as nobody asks, so that every loop can go over all 16.
    private static final int NOT_COME = -1;
    private static final int WAITS = 0;
    private static final int IN_CELL = 1;
    private static final int PUT_OUT = 2;
    private static final int HAS_LEFT = 3;

    // Why something is refused.
    private static final int HOUSE_IS_FULL = 1;
    private static final int WAITS_NOT = 2;
    private static final int IN_NO_CELL = 3;
    private static final int UNDER_BAN = 4;
    private static final int CELL_IS_TAKEN = 5;
    private static final int NOBODY_WAITS = 6;
    private static final int CELL_IS_EMPTY = 7;
    private static final int FEASTS_ARE_FULL = 8;
    private static final int PARDONS_ARE_SPENT = 9;
    private static final int UNDER_NO_BAN = 10;
    private static final int ORDER_FAILS = 11;

    // What the state knows of each brother; the breaches take one column for each rule.
    private static final int AGE = 0;
    private static final int KIN = 1;
    private static final int HOW = 2;
    private static final int CELL = 3;
    private static final int GOWN = 4;
    private static final int BAN = 5;
    private static final int GOT = 6;
    private static final int VOICE = 7;
    private static final int SINCE = 8;
    private static final int BREACHES = 9;
    private static final int COLUMNS = BREACHES + RULES;

    // Where the state keeps the rest: the brother of each cell, the pence of each week, and single numbers.
    private static final int CELLS_FROM = COLUMNS * BRETHREN_MOST;
    private static final int FEASTS_FROM = CELLS_FROM + CELLS;
    private static final int CAME = FEASTS_FROM + WEEKS_OF_YEAR;
    private static final int CHOSEN = CAME + 1;
    private static final int YEAR = CAME + 2;
    private static final int WEEK = CAME + 3;
    private static final int CHEST = CAME + 4;
    private static final int INCOME = CAME + 5;
    private static final int PAID = CAME + 6;
    private static final int PAID_FOR_GOWNS = CAME + 7;
    private static final int GOWNS_BOUGHT = CAME + 8;
    private static final int PARDONS = CAME + 9;
    private static final int STATE_SIZE = CAME + 10;

    // The orders of a text.
    private static final int ORDER_VOICE = 0;
    private static final int ORDER_CHOOSE = 1;
    private static final int ORDER_LEAVE = 2;
    private static final int ORDER_BREACH = 3;
    private static final int ORDER_PARDON = 4;
    private static final int ORDER_FEAST = 5;
    private static final int ORDER_GIFT = 6;
    private static final int ORDER_WEEKS = 7;
    private static final int ORDER_LENGTH_LEAST = 6;
    private static final int ORDERS_MOST = TEXT_MOST / ORDER_LENGTH_LEAST;

    private final State now = new State();
    private final State snapshot = new State();
    private final Deeds trial = new Deeds();
    private final Ranks ranks = new Ranks();
    private final History history = new History();
    private final Orders orders = new Orders();
    private final Signs text = new Signs(TEXT_MOST);
    private final Signs line = new Signs(LINE_MOST);
    private final int[] tally = new int[BRETHREN_MOST];
    private boolean hasSnapshot = false;
    private int latestReason = 0;
    private int latestDetail = 0;

    public PittanceHouse() {
    }

    // ---- brethren, cells

    public int come(int age, boolean isKin) {
        return settle(onTrial().admit(age, isKin));
    }

    public int withdraw(int brother) {
        return settle(onTrial().dropFromLine(brother));
    }

    public int voice(int brother, int waiting) {
        return settle(onTrial().giveVoice(brother, waiting));
    }

    public int choose(int cell) {
        return settle(onTrial().fillCell(cell));
    }

    public int leave(int cell) {
        return settle(onTrial().emptyCell(cell));
    }

    // ---- feasts, rules, the chest

    public int feast(int week, int pence) {
        return settle(onTrial().setFeast(week, pence));
    }

    public int breach(int brother, int rule) {
        return settle(onTrial().breakRule(brother, rule));
    }

    public int pardon(int brother) {
        return settle(onTrial().endBan(brother));
    }

    public int gift(int pence) {
        return settle(onTrial().takeGift(pence));
    }

    public int weeks(int weeks) {
        return settle(onTrial().spendWeeks(weeks));
    }

    public int brotherOf(int brother, int what) {
        if (!now.isBrother(brother)) {
            return NONE;
        }
        switch (what) {
            case 0: return now.of(AGE, brother);
            case 1: return now.of(KIN, brother);
            case 2: return now.of(HOW, brother);
            case 3: return now.of(CELL, brother);
            case 4: return now.is(IN_CELL, brother) ? now.of(GOWN, brother) : NOTHING;
            case 5: return now.of(BAN, brother);
            case 6: return now.of(GOT, brother);
            case 7: return breachesOf(brother);
            case 8: return now.of(VOICE, brother);
            case 9: return placeInLine(brother);
            default: return BAD;
        }
    }

    public int broke(int brother, int rule) {
        return now.isBrother(brother) && isRule(rule) ? now.of(BREACHES + rule, brother) : NONE;
    }

    public int inCell(int cell) {
        return isCell(cell) ? now.get(CELLS_FROM + cell) : NONE;
    }

    // ---- who is entitled, voices

    public int entitled() {
        int set = 0;
        for (int b = 0; b < BRETHREN_MOST; b++) {
            if (now.isEntitled(b)) {
                set |= 1 << b;
            }
        }
        return set;
    }

    public int entitledAgain() {
        int set = 0;
        for (int c = 0; c < CELLS; c++) {
            int brother = now.get(CELLS_FROM + c);
            if (now.isBrother(brother) && now.of(BAN, brother) == 0) {
                set |= 1 << brother;
            }
        }
        return set;
    }

    public int voices(int brother) {
        return now.isBrother(brother) ? now.voicesFor(brother) : NONE;
    }

    public int voicesAgain(int brother) {
        if (!now.isBrother(brother)) {
            return NONE;
        }
        tallyVoices();
        return brother >= 0 && brother < tally.length ? tally[brother] : 0;
    }

    public int ranked(int place) {
        return ranks.byVoices(now, place);
    }

    public int senior(int place) {
        return ranks.byTime(now, place);
    }

    public int shabby(int place) {
        return ranks.byGown(now, place);
    }

    // ---- what would come

    public int nextFeast() {
        for (int ahead = 0; ahead < WEEKS_OF_YEAR; ahead++) {
            if (now.pittanceIn((now.get(WEEK) + ahead) % WEEKS_OF_YEAR) > 0) {
                return ahead;
            }
        }
        return NOTHING;
    }

    public int wouldGet(int brother, int weeks) {
        if (!now.isBrother(brother)) {
            return NONE;
        }
        if (weeks < 0 || weeks > WEEKS_MOST) {
            return BAD;
        }
        return onTrial().after(weeks).of(GOT, brother) - now.of(GOT, brother);
    }

    public int chestIn(int weeks) {
        return weeks < 0 || weeks > WEEKS_MOST ? BAD : onTrial().after(weeks).get(CHEST);
    }

    // ---- texts, lines

    public int append(int code) {
        if (code < CODE_LEAST || code > CODE_MOST) {
            return BAD;
        }
        if (text.size() >= TEXT_MOST) {
            return FULL;
        }
        text.add(code);
        return text.size();
    }

    public int run() {
        int fault = orders.read(text);
        text.clear();
        if (fault >= 0) {
            return FAULT_BASE - fault;
        }
        Deeds deeds = onTrial();
        for (int i = 0; i < orders.size(); i++) {
            if (deeds.perform(orders.kindOf(i), orders.firstOf(i), orders.secondOf(i)) < 0) {
                return settle(deeds.refuse(ORDER_FAILS, i));
            }
        }
        return settle(orders.size());
    }

    public int tell() {
        line.clear();
        for (int c = 0; c < CELLS; c++) {
            if (c > 0) {
                line.add(' ');
            }
            addCell(now.get(CELLS_FROM + c));
        }
        return line.size();
    }

    public int tellWaiting() {
        line.clear();
        for (int b = 0; b < BRETHREN_MOST; b++) {
            if (now.is(WAITS, b)) {
                addWaiting(b);
            }
        }
        return line.size();
    }

    public int character(int index) {
        int code = line.at(index);
        return code < 0 ? NONE : code;
    }

    // ---- reasons, accounts, undo and the snapshot

    public int reason(boolean isDetail) {
        if (latestReason == 0) {
            return NOTHING;
        }
        return isDetail ? latestDetail : latestReason;
    }

    public int account(int what) {
        switch (what) {
            case 0: return now.get(YEAR);
            case 1: return now.get(WEEK);
            case 2: return now.get(CAME);
            case 3: return now.howMany(WAITS);
            case 4: return now.howMany(IN_CELL);
            case 5: return now.howMany(PUT_OUT);
            case 6: return now.howMany(HAS_LEFT);
            case 7: return brethrenUnderBan();
            case 8: return now.feastsTold();
            case 9: return now.get(CHEST);
            case 10: return now.get(INCOME);
            case 11: return now.get(PAID);
            case 12: return now.get(PAID_FOR_GOWNS);
            case 13: return now.get(GOWNS_BOUGHT);
            case 14: return now.get(PARDONS);
            case 15: return text.size();
            case 16: return history.size();
            default: return BAD;
        }
    }

    public int isBalanced() {
        int due = CHEST_FIRST + now.get(INCOME) - now.get(PAID) - now.get(PAID_FOR_GOWNS);
        int got = 0;
        boolean isSound = true;
        for (int b = 0; b < BRETHREN_MOST; b++) {
            got += now.of(GOT, b);
            isSound = isSound && cellsWith(b) == (now.is(IN_CELL, b) ? 1 : 0);
        }
        return isSound && now.get(CHEST) == due && now.get(PAID) == got ? 1 : 0;
    }

    public double meanAge() {
        int many = 0;
        int sum = 0;
        for (int b = 0; b < BRETHREN_MOST; b++) {
            if (now.is(IN_CELL, b)) {
                many++;
                sum += now.of(AGE, b);
            }
        }
        return many == 0 ? 0.0 : (double) sum / (double) many;
    }

    public float entitledShare() {
        int many = now.howMany(IN_CELL);
        return many == 0 ? 0.0f : (float) now.entitledMany() / (float) many;
    }

    public int undo() {
        return history.giveBack(now) ? history.size() : NOTHING;
    }

    public int save() {
        snapshot.copyFrom(now);
        hasSnapshot = true;
        return now.get(CAME);
    }

    public int restore() {
        if (!hasSnapshot) {
            return NOTHING;
        }
        now.copyFrom(snapshot);
        history.forget();
        return now.get(CAME);
    }

    // ---- helpers of the face

    /** Every change is tried on a copy, so that what is refused, or would only come, leaves the house as it is. */
    private Deeds onTrial() {
        trial.beginFrom(now);
        return trial;
    }

    private int settle(int answer) {
        if (answer >= 0) {
            history.keep(now);
            now.copyFrom(trial.result());
        } else if (answer == REFUSED) {
            latestReason = trial.refusedFor();
            latestDetail = trial.refusedDetail();
        }
        return answer;
    }

    private static boolean isCell(int cell) {
        return cell >= 0 && cell < CELLS;
    }

    private static boolean isRule(int rule) {
        return rule >= 0 && rule < RULES;
    }

    private int breachesOf(int brother) {
        int sum = 0;
        for (int rule = 0; rule < RULES; rule++) {
            sum += now.of(BREACHES + rule, brother);
        }
        return sum;
    }

    private int placeInLine(int brother) {
        if (!now.is(WAITS, brother)) {
            return NOTHING;
        }
        int ahead = 0;
        for (int b = 0; b < brother && b < BRETHREN_MOST; b++) {
            if (now.is(WAITS, b)) {
                ahead++;
            }
        }
        return ahead;
    }

    /** Goes by the cells and not by the brethren, since only a brother in a cell has a voice. */
    private void tallyVoices() {
        for (int b = 0; b < tally.length; b++) {
            tally[b] = 0;
        }
        for (int c = 0; c < CELLS; c++) {
            int giver = now.get(CELLS_FROM + c);
            int to = now.isBrother(giver) ? now.of(VOICE, giver) : NOTHING;
            if (to >= 0 && to < tally.length) {
                tally[to] += now.of(KIN, to) == 1 ? 2 : 1;
            }
        }
    }

    private int brethrenUnderBan() {
        int many = 0;
        for (int b = 0; b < BRETHREN_MOST; b++) {
            if (now.of(BAN, b) > 0) {
                many++;
            }
        }
        return many;
    }

    private int cellsWith(int brother) {
        int many = 0;
        for (int c = 0; c < CELLS; c++) {
            if (now.get(CELLS_FROM + c) == brother) {
                many++;
            }
        }
        return many;
    }

    private void addCell(int brother) {
        if (!now.isBrother(brother)) {
            line.add('-');
            return;
        }
        line.addNumber(brother);
        if (now.of(BAN, brother) > 0) {
            line.add('!');
        }
        if (now.of(GOWN, brother) >= GOWN_IS_OLD) {
            line.add('*');
        }
    }

    private void addWaiting(int brother) {
        if (line.size() > 0) {
            line.add(',');
        }
        line.addNumber(brother);
        if (now.of(KIN, brother) == 1) {
            line.add('k');
        }
        line.add(':');
        line.addNumber(now.voicesFor(brother));
    }

    /**
     * All that changes can change, in one row, so that a copy is one step. The line of those who wait needs no list:
     * a brother joins it when he comes and never again, so it stands in the order of the numbers.
     */
    private static final class State {
        private final int[] row = new int[STATE_SIZE];

        State() {
            for (int b = 0; b < BRETHREN_MOST; b++) {
                setOf(HOW, b, NOT_COME);
                setOf(CELL, b, NOTHING);
                setOf(VOICE, b, NOTHING);
            }
            for (int c = 0; c < CELLS; c++) {
                set(CELLS_FROM + c, NOTHING);
            }
            set(CHEST, CHEST_FIRST);
        }

        int get(int index) {
            return index >= 0 && index < row.length ? row[index] : 0;
        }

        void set(int index, int number) {
            if (index >= 0 && index < row.length) {
                row[index] = number;
            }
        }

        int of(int what, int brother) {
            int index = what * BRETHREN_MOST + brother;
            return index >= 0 && index < row.length ? row[index] : 0;
        }

        void setOf(int what, int brother, int number) {
            set(what * BRETHREN_MOST + brother, number);
        }

        void copyFrom(State other) {
            System.arraycopy(other.row, 0, row, 0, Math.min(row.length, other.row.length));
        }

        void copyTo(int[] store, int from) {
            if (from >= 0 && from <= store.length - row.length) {
                System.arraycopy(row, 0, store, from, row.length);
            }
        }

        void copyBack(int[] store, int from) {
            if (from >= 0 && from <= store.length - row.length) {
                System.arraycopy(store, from, row, 0, row.length);
            }
        }

        boolean isBrother(int brother) {
            return brother >= 0 && brother < get(CAME);
        }

        boolean is(int how, int brother) {
            return of(HOW, brother) == how;
        }

        boolean isEntitled(int brother) {
            return of(HOW, brother) == IN_CELL && of(BAN, brother) == 0;
        }

        int howMany(int how) {
            int many = 0;
            for (int b = 0; b < BRETHREN_MOST; b++) {
                if (is(how, b)) {
                    many++;
                }
            }
            return many;
        }

        int entitledMany() {
            int many = 0;
            for (int b = 0; b < BRETHREN_MOST; b++) {
                if (isEntitled(b)) {
                    many++;
                }
            }
            return many;
        }

        /** A voice is taken away when its giver or its aim goes, so each one that stands counts. */
        int voicesFor(int brother) {
            int given = 0;
            for (int b = 0; b < BRETHREN_MOST; b++) {
                if (of(VOICE, b) == brother) {
                    given++;
                }
            }
            return of(KIN, brother) == 1 ? 2 * given : given;
        }

        int pittanceIn(int week) {
            return week >= 0 && week < WEEKS_OF_YEAR ? get(FEASTS_FROM + week) : 0;
        }

        int feastsTold() {
            int many = 0;
            for (int week = 0; week < WEEKS_OF_YEAR; week++) {
                if (pittanceIn(week) > 0) {
                    many++;
                }
            }
            return many;
        }

        /** What the chest has no room for is lost, and so is no income either. */
        void takeIn(int pence) {
            int fits = Math.min(pence, CHEST_MOST - get(CHEST));
            set(CHEST, get(CHEST) + fits);
            set(INCOME, get(INCOME) + fits);
        }
    }

    /** Orders brethren by a key of each, the largest first; no two keys are alike, and who has no place has -1. */
    private static final class Ranks {
        private final int[] keys = new int[BRETHREN_MOST];

        int byVoices(State state, int place) {
            for (int b = 0; b < keys.length; b++) {
                boolean isCounted = state.of(HOW, b) == WAITS;
                keys[b] = isCounted ? state.voicesFor(b) * BRETHREN_MOST + BRETHREN_MOST - 1 - b : -1;
            }
            return withPlace(place);
        }

        int byTime(State state, int place) {
            for (int b = 0; b < keys.length; b++) {
                boolean isCounted = state.of(HOW, b) == IN_CELL;
                keys[b] = isCounted ? BRETHREN_MOST - 1 - state.of(SINCE, b) : -1;
            }
            return withPlace(place);
        }

        int byGown(State state, int place) {
            for (int b = 0; b < keys.length; b++) {
                boolean isCounted = state.of(HOW, b) == IN_CELL;
                keys[b] = isCounted ? (state.of(GOWN, b) + 1) * BRETHREN_MOST - 1 - state.of(SINCE, b) : -1;
            }
            return withPlace(place);
        }

        private int withPlace(int place) {
            for (int b = 0; b < keys.length; b++) {
                int above = 0;
                for (int key : keys) {
                    if (key > keys[b]) {
                        above++;
                    }
                }
                if (keys[b] >= 0 && above == place) {
                    return b;
                }
            }
            return NONE;
        }
    }

    /** Carries out changes on a state of its own, and tells for what reason it refuses one. */
    private static final class Deeds {
        private final State state = new State();
        private final Ranks ranks = new Ranks();
        private int why = 0;
        private int detail = 0;

        void beginFrom(State start) {
            state.copyFrom(start);
        }

        State result() {
            return state;
        }

        int refusedFor() {
            return why;
        }

        int refusedDetail() {
            return detail;
        }

        int refuse(int reasonNumber, int reasonDetail) {
            why = reasonNumber;
            detail = reasonDetail;
            return REFUSED;
        }

        int admit(int age, boolean isKin) {
            if (age < AGE_LEAST || age > AGE_MOST) {
                return BAD;
            }
            int brother = state.get(CAME);
            if (brother >= BRETHREN_MOST) {
                return refuse(HOUSE_IS_FULL, BRETHREN_MOST);
            }
            state.set(CAME, brother + 1);
            state.setOf(AGE, brother, age);
            state.setOf(KIN, brother, isKin ? 1 : 0);
            state.setOf(HOW, brother, WAITS);
            return brother;
        }

        int dropFromLine(int brother) {
            if (!state.isBrother(brother)) {
                return NONE;
            }
            if (!state.is(WAITS, brother)) {
                return refuse(WAITS_NOT, state.of(HOW, brother));
            }
            state.setOf(HOW, brother, HAS_LEFT);
            dropVoicesFor(brother);
            return state.howMany(WAITS);
        }

        int giveVoice(int brother, int waiting) {
            if (!state.isBrother(brother) || !state.isBrother(waiting)) {
                return NONE;
            }
            if (!state.is(IN_CELL, brother)) {
                return refuse(IN_NO_CELL, state.of(HOW, brother));
            }
            if (state.of(BAN, brother) > 0) {
                return refuse(UNDER_BAN, state.of(BAN, brother));
            }
            if (!state.is(WAITS, waiting)) {
                return refuse(WAITS_NOT, state.of(HOW, waiting));
            }
            state.setOf(VOICE, brother, waiting);
            return state.voicesFor(waiting);
        }

        int fillCell(int cell) {
            if (!isCell(cell)) {
                return NONE;
            }
            if (state.isBrother(state.get(CELLS_FROM + cell))) {
                return refuse(CELL_IS_TAKEN, state.get(CELLS_FROM + cell));
            }
            int brother = ranks.byVoices(state, 0);
            if (!state.isBrother(brother)) {
                return refuse(NOBODY_WAITS, cell);
            }
            state.setOf(HOW, brother, IN_CELL);
            state.setOf(CELL, brother, cell);
            state.setOf(GOWN, brother, 0);
            state.setOf(SINCE, brother, state.get(CHOSEN));
            state.set(CHOSEN, state.get(CHOSEN) + 1);
            state.set(CELLS_FROM + cell, brother);
            dropVoicesFor(brother);
            return brother;
        }

        int emptyCell(int cell) {
            if (!isCell(cell)) {
                return NONE;
            }
            int brother = state.get(CELLS_FROM + cell);
            if (!state.isBrother(brother)) {
                return refuse(CELL_IS_EMPTY, cell);
            }
            moveOut(brother, HAS_LEFT);
            return brother;
        }

        int setFeast(int week, int pence) {
            if (week < 0 || week >= WEEKS_OF_YEAR || pence < 1 || pence > PITTANCE_MOST) {
                return BAD;
            }
            if (state.pittanceIn(week) == 0 && state.feastsTold() >= FEASTS_MOST) {
                return refuse(FEASTS_ARE_FULL, FEASTS_MOST);
            }
            state.set(FEASTS_FROM + week, pence);
            return state.feastsTold();
        }

        int breakRule(int brother, int rule) {
            if (!state.isBrother(brother) || !isRule(rule)) {
                return NONE;
            }
            if (!state.is(IN_CELL, brother)) {
                return refuse(IN_NO_CELL, state.of(HOW, brother));
            }
            int times = state.of(BREACHES + rule, brother) + 1;
            state.setOf(BREACHES + rule, brother, times);
            if (times >= BREACHES_TO_GO) {
                moveOut(brother, PUT_OUT);
            } else {
                state.setOf(BAN, brother, state.of(BAN, brother) + times);
            }
            return state.of(BAN, brother);
        }

        int endBan(int brother) {
            if (!state.isBrother(brother)) {
                return NONE;
            }
            if (!state.is(IN_CELL, brother)) {
                return refuse(IN_NO_CELL, state.of(HOW, brother));
            }
            int ban = state.of(BAN, brother);
            if (ban == 0) {
                return refuse(UNDER_NO_BAN, brother);
            }
            if (state.get(PARDONS) >= PARDONS_MOST) {
                return refuse(PARDONS_ARE_SPENT, PARDONS_MOST);
            }
            state.setOf(BAN, brother, 0);
            state.set(PARDONS, state.get(PARDONS) + 1);
            return ban;
        }

        int takeGift(int pence) {
            if (pence < 1 || pence > GIFT_MOST) {
                return BAD;
            }
            state.takeIn(pence);
            return state.get(CHEST);
        }

        int spendWeeks(int weeks) {
            if (weeks < 1 || weeks > WEEKS_MOST) {
                return BAD;
            }
            int before = state.get(PAID);
            return after(weeks).get(PAID) - before;
        }

        State after(int weeks) {
            for (int i = 0; i < weeks; i++) {
                payFeast(state.pittanceIn(state.get(WEEK)), state.entitledMany());
                shortenBans();
                state.takeIn(RENT * (CELLS - state.howMany(IN_CELL)));
                state.set(WEEK, (state.get(WEEK) + 1) % WEEKS_OF_YEAR);
                if (state.get(WEEK) == 0) {
                    beginYear();
                    buyGowns();
                }
            }
            return state;
        }

        int perform(int kind, int first, int second) {
            switch (kind) {
                case ORDER_VOICE: return giveVoice(first, second);
                case ORDER_CHOOSE: return fillCell(first);
                case ORDER_LEAVE: return emptyCell(first);
                case ORDER_BREACH: return breakRule(first, second);
                case ORDER_PARDON: return endBan(first);
                case ORDER_FEAST: return setFeast(first, second);
                case ORDER_GIFT: return takeGift(first);
                case ORDER_WEEKS: return spendWeeks(first);
                default: return BAD;
            }
        }

        private void dropVoicesFor(int brother) {
            for (int b = 0; b < BRETHREN_MOST; b++) {
                if (state.of(VOICE, b) == brother) {
                    state.setOf(VOICE, b, NOTHING);
                }
            }
        }

        private void moveOut(int brother, int how) {
            state.set(CELLS_FROM + state.of(CELL, brother), NOTHING);
            state.setOf(HOW, brother, how);
            state.setOf(CELL, brother, NOTHING);
            state.setOf(BAN, brother, 0);
            state.setOf(VOICE, brother, NOTHING);
        }

        private void payFeast(int pence, int many) {
            if (pence == 0 || many == 0) {
                return;
            }
            int each = Math.min(pence, state.get(CHEST) / many);
            for (int b = 0; b < BRETHREN_MOST; b++) {
                if (state.isEntitled(b)) {
                    state.setOf(GOT, b, state.of(GOT, b) + each);
                }
            }
            state.set(CHEST, state.get(CHEST) - each * many);
            state.set(PAID, state.get(PAID) + each * many);
        }

        private void shortenBans() {
            for (int b = 0; b < BRETHREN_MOST; b++) {
                if (state.of(BAN, b) > 0) {
                    state.setOf(BAN, b, state.of(BAN, b) - 1);
                }
            }
        }

        private void beginYear() {
            state.set(YEAR, state.get(YEAR) + 1);
            state.set(PARDONS, 0);
            for (int b = 0; b < BRETHREN_MOST; b++) {
                boolean isHoused = state.is(IN_CELL, b);
                if (isHoused || state.is(WAITS, b)) {
                    state.setOf(AGE, b, state.of(AGE, b) + 1);
                }
                if (isHoused) {
                    state.setOf(GOWN, b, state.of(GOWN, b) + 1);
                }
            }
        }

        /** A new gown ranks behind every old one, so the first of the ranks is always the next to get one. */
        private void buyGowns() {
            for (int i = 0; i < CELLS; i++) {
                int brother = ranks.byGown(state, 0);
                boolean isDue = state.isBrother(brother) && state.of(GOWN, brother) >= GOWN_IS_OLD;
                if (!isDue || state.get(CHEST) < GOWN_PRICE) {
                    return;
                }
                state.setOf(GOWN, brother, 0);
                state.set(CHEST, state.get(CHEST) - GOWN_PRICE);
                state.set(PAID_FOR_GOWNS, state.get(PAID_FOR_GOWNS) + GOWN_PRICE);
                state.set(GOWNS_BOUGHT, state.get(GOWNS_BOUGHT) + 1);
            }
        }
    }

    /** The states before the latest changes, in one store that is written round and round. */
    private static final class History {
        private final int[] store = new int[CHANGES_KEPT * STATE_SIZE];
        private int next = 0;
        private int kept = 0;

        int size() {
            return kept;
        }

        void keep(State state) {
            state.copyTo(store, next * STATE_SIZE);
            next = (next + 1) % CHANGES_KEPT;
            kept = Math.min(kept + 1, CHANGES_KEPT);
        }

        boolean giveBack(State state) {
            if (kept == 0) {
                return false;
            }
            kept--;
            next = (next + CHANGES_KEPT - 1) % CHANGES_KEPT;
            state.copyBack(store, next * STATE_SIZE);
            return true;
        }

        void forget() {
            kept = 0;
        }
    }

    /** Characters one after the other, up to a fixed number. */
    private static final class Signs {
        private final int[] codes;
        private int used = 0;

        Signs(int most) {
            codes = new int[Math.max(most, 0)];
        }

        int size() {
            return used;
        }

        int at(int index) {
            return index >= 0 && index < used && index < codes.length ? codes[index] : -1;
        }

        void clear() {
            used = 0;
        }

        void add(int code) {
            if (used >= 0 && used < codes.length) {
                codes[used] = code;
                used++;
            }
        }

        /** No number of a line has more than two digits. */
        void addNumber(int number) {
            if (number >= 10) {
                add('0' + number / 10);
            }
            add('0' + number % 10);
        }
    }

    /** Reads a text as orders. The words differ in their first letters, so one letter tells the word. */
    private static final class Orders {
        private final int[] kinds = new int[ORDERS_MOST];
        private final int[] firsts = new int[ORDERS_MOST];
        private final int[] seconds = new int[ORDERS_MOST];
        private int many = 0;
        private int position = 0;
        private int latestNumber = 0;

        int size() {
            return many;
        }

        int kindOf(int order) {
            return order >= 0 && order < kinds.length ? kinds[order] : -1;
        }

        int firstOf(int order) {
            return order >= 0 && order < firsts.length ? firsts[order] : 0;
        }

        int secondOf(int order) {
            return order >= 0 && order < seconds.length ? seconds[order] : 0;
        }

        /** Returns the fault position, or -1 if the text is right. */
        int read(Signs text) {
            many = 0;
            position = 0;
            for (int i = 0; i < ORDERS_MOST; i++) {
                if (!readOrder(text)) {
                    return position;
                }
                if (position >= text.size()) {
                    return -1;
                }
                if (!readSign(text, ';')) {
                    return position;
                }
            }
            return position;
        }

        private boolean readOrder(Signs text) {
            int kind = kindWith(text.at(position));
            if (kind < 0 || !readWord(text, wordOf(kind)) || !readNumber(text, firstDigits(kind))) {
                return false;
            }
            int first = latestNumber;
            int second = 0;
            if (secondDigits(kind) > 0) {
                if (!readSign(text, ' ') || !readNumber(text, secondDigits(kind))) {
                    return false;
                }
                second = latestNumber;
            }
            keep(kind, first, second);
            return true;
        }

        private void keep(int kind, int first, int second) {
            if (many >= 0 && many < kinds.length && many < firsts.length && many < seconds.length) {
                kinds[many] = kind;
                firsts[many] = first;
                seconds[many] = second;
                many++;
            }
        }

        private boolean readWord(Signs text, String word) {
            for (int i = 0; i < word.length(); i++) {
                if (!readSign(text, word.charAt(i))) {
                    return false;
                }
            }
            return true;
        }

        private boolean readSign(Signs text, int code) {
            if (text.at(position) != code) {
                return false;
            }
            position++;
            return true;
        }

        private boolean readNumber(Signs text, int mostDigits) {
            int number = 0;
            int digits = 0;
            while (digits < mostDigits && text.at(position) >= '0' && text.at(position) <= '9') {
                number = number * 10 + text.at(position) - '0';
                position++;
                digits++;
            }
            latestNumber = number;
            return digits > 0;
        }

        private static int kindWith(int letter) {
            switch (letter) {
                case 'v': return ORDER_VOICE;
                case 'c': return ORDER_CHOOSE;
                case 'l': return ORDER_LEAVE;
                case 'b': return ORDER_BREACH;
                case 'p': return ORDER_PARDON;
                case 'f': return ORDER_FEAST;
                case 'g': return ORDER_GIFT;
                case 'w': return ORDER_WEEKS;
                default: return -1;
            }
        }

        private static String wordOf(int kind) {
            switch (kind) {
                case ORDER_VOICE: return "voice ";
                case ORDER_CHOOSE: return "choose ";
                case ORDER_LEAVE: return "leave ";
                case ORDER_BREACH: return "breach ";
                case ORDER_PARDON: return "pardon ";
                case ORDER_FEAST: return "feast ";
                case ORDER_GIFT: return "gift ";
                default: return "weeks ";
            }
        }

        private static int firstDigits(int kind) {
            switch (kind) {
                case ORDER_CHOOSE:
                case ORDER_LEAVE: return 1;
                case ORDER_GIFT: return 3;
                default: return 2;
            }
        }

        /** 0 if the order has one number alone. */
        private static int secondDigits(int kind) {
            switch (kind) {
                case ORDER_VOICE: return 2;
                case ORDER_BREACH:
                case ORDER_FEAST: return 1;
                default: return 0;
            }
        }
    }
}
