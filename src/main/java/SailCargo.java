/**
 * A line of sailing cargo ships with a small engine. The numbered promises of the project's
 * document say what each call answers; the words in capitals are the document's terms.
 */
public final class SailCargo {
    public static final int NONE = -1;

    private static final int BAD_NUMBER = -1;
    private static final int NO_SUCH = -2;
    private static final int CANNOT_BE = -3;
    private static final int NO_ROOM = -5;
    private static final int BAD_TEXT = -6;

    private static final int LAST_KNOWN_DAY = 1000;
    private static final int WINDS = 4;
    private static final int SIXTEEN = 16;
    private static final int MOST_MILES = 120;
    private static final int MOST_DAYS = 12;
    private static final int MOST_COAL = 12;
    private static final int MOST_LOADS = 12;
    private static final int MOST_HOLD = 1000;
    private static final int MOST_TERM = 10000;
    private static final int MOST_SMOKE_DUE = 1000000;

    private final Weather weather;
    private final Passage passage;
    private final Hold hold;
    private final Harbour harbour;
    private final Tape tape;
    private final Reader reader;
    private final Voyage voyage;
    private Terms agreed;
    private Terms draft;
    private int faultPlace;
    private int refusedBy;

    public SailCargo() {
        weather = new Weather();
        passage = new Passage();
        hold = new Hold();
        harbour = new Harbour();
        tape = new Tape();
        reader = new Reader(tape);
        voyage = new Voyage(hold);
        agreed = new Terms();
        draft = new Terms();
        faultPlace = NONE;
        refusedBy = 0;
    }

    public int winds(int a, int b, int c, int d, int known) {
        return answered(weather.tell(a, b, c, d, known));
    }

    public int weight(int wind, int known) {
        if (!isWind(wind) || !isKnownDay(known)) {
            return NONE;
        }
        return weather.weightOf(wind, known);
    }

    public int sails(int wind, int miles) {
        return answered(passage.setSails(wind, miles));
    }

    public int engine(int miles) {
        return answered(passage.setEngine(miles));
    }

    public long luck(int miles, int days, int coal, int known, int what) {
        if (!isPassage(miles, coal, known) || !isWithin(days, 0, MOST_DAYS) || !isWithin(what, 0, 1)) {
            return NONE;
        }
        passage.know(weather, known);
        passage.reckon(miles, days, coal);
        return what == 0 ? passage.chanceOf(miles, days, coal) : passage.burntOf(miles, days, coal);
    }

    public int choice(int miles, int days, int coal, int wind, int known) {
        if (!isPassage(miles, coal, known) || !isWithin(days, 1, MOST_DAYS) || !isWind(wind)) {
            return NONE;
        }
        passage.know(weather, known);
        passage.reckon(miles, days - 1, coal);
        return passage.bestChoice(days, miles, coal, wind);
    }

    public int promise(int miles, int coal, int known, int n) {
        if (!isPassage(miles, coal, known) || !isWithin(n, 1, SIXTEEN)) {
            return NONE;
        }
        passage.know(weather, known);
        return passage.fewestDays(miles, coal, n);
    }

    public int load(int tons, int worth) {
        return answered(hold.add(tons, worth));
    }

    public int apart(int a, int b, boolean is) {
        return answered(hold.setApart(a, b, is));
    }

    public int stow(int tons, int what) {
        if (!isWithin(tons, 0, MOST_HOLD) || !isWithin(what, 0, 2)) {
            return NONE;
        }
        hold.fill(tons);
        if (what == 0) {
            return hold.bestBits;
        }
        return what == 1 ? hold.bestTons : hold.bestWorth;
    }

    public int berths(int port, int many) {
        return answered(harbour.setBerths(port, many));
    }

    public int slot(int port, int from, int days) {
        return answered(harbour.grant(port, from, days));
    }

    public int of(int slot, int what) {
        return harbour.tell(slot, what);
    }

    public int free(int slot) {
        return answered(harbour.giveUp(slot));
    }

    public int feed(int a, int b, int c, int d, int e) {
        if (!tape.hasRoom()) {
            return NONE;
        }
        tape.add(a);
        tape.add(b);
        tape.add(c);
        tape.add(d);
        tape.add(e);
        return tape.length;
    }

    public int end(int n) {
        if (!isWithin(n, 0, tape.length)) {
            return NONE;
        }
        tape.length = n;
        return n;
    }

    public int contract() {
        faultPlace = reader.read(draft);
        tape.length = 0;
        if (faultPlace != NONE) {
            return answered(BAD_TEXT);
        }
        Terms former = agreed;
        agreed = draft;
        draft = former;
        return answered(agreed.clauses);
    }

    public int fault() {
        return faultPlace;
    }

    public long due(int tons, int day, int smoke) {
        if (!isTerm(tons) || !isTerm(day) || !isWithin(smoke, 0, MOST_SMOKE_DUE)) {
            return NONE;
        }
        return agreed.sum(tons, day, smoke);
    }

    public int leg(int smoke) {
        return answered(voyage.add(smoke));
    }

    public int aboard(int load, int from, int to) {
        return answered(voyage.take(load, from, to));
    }

    public int part(int load, int leg) {
        if (!hold.has(load) || !voyage.has(leg)) {
            return NONE;
        }
        return voyage.partOf(load, leg);
    }

    public int smoke(int load) {
        if (load == NONE) {
            return voyage.ownSmoke();
        }
        return hold.has(load) ? voyage.smokeOf(load) : NONE - 1;
    }

    public int count(int what) {
        switch (what) {
            case 0:
                return weather.told;
            case 1:
                return hold.loads;
            case 2:
                return harbour.told;
            case 3:
                return agreed.clauses;
            case 4:
                return voyage.legs;
            case 5:
                return tape.length;
            case 6:
                return harbour.held;
            default:
                return NONE;
        }
    }

    public int status() {
        return refusedBy;
    }

    /** Every call whose refusal is kept answers below 0 if it is refused, and only then. */
    private int answered(int answer) {
        refusedBy = Math.min(answer, 0);
        return answer;
    }

    private static boolean isWithin(int n, int low, int high) {
        return low <= n && n <= high;
    }

    private static boolean isWind(int wind) {
        return isWithin(wind, 0, WINDS - 1);
    }

    private static boolean isKnownDay(int known) {
        return isWithin(known, 0, LAST_KNOWN_DAY);
    }

    private static boolean isPassage(int miles, int coal, int known) {
        return isWithin(miles, 0, MOST_MILES) && isWithin(coal, 0, MOST_COAL) && isKnownDay(known);
    }

    private static boolean isTerm(int n) {
        return isWithin(n, 0, MOST_TERM);
    }

    /** The WEIGHTS told, in the order in which they were told. */
    private static final class Weather {
        private static final int MOST_TOLD = 40;
        private static final int EVEN = 4;

        private final int[] weights = new int[MOST_TOLD * WINDS];
        private final int[] knownFrom = new int[MOST_TOLD];
        private int told;

        int tell(int a, int b, int c, int d, int known) {
            if (!isWeight(a) || !isWeight(b) || !isWeight(c) || !isWeight(d)
                    || a + b + c + d != SIXTEEN || !isKnownDay(known)) {
                return BAD_NUMBER;
            }
            if (told >= MOST_TOLD) {
                return NO_ROOM;
            }
            int row = told * WINDS;
            weights[row] = a;
            weights[row + 1] = b;
            weights[row + 2] = c;
            weights[row + 3] = d;
            knownFrom[told] = known;
            told++;
            return told;
        }

        int weightOf(int wind, int known) {
            for (int i = told - 1; i >= 0; i--) {
                if (knownFrom[i] <= known) {
                    return weights[i * WINDS + wind];
                }
            }
            return EVEN;
        }

        private static boolean isWeight(int n) {
            return isWithin(n, 0, SIXTEEN);
        }
    }

    /**
     * LUCK and the mean COAL, reckoned from the last day back. The rows are kept from call to
     * call, as most calls ask again under the same WEIGHTS, SAILS and ENGINE.
     */
    private static final class Passage {
        private static final int SAILING = 0;
        private static final int STEAMING = 1;
        private static final int WAITING = 2;
        private static final int MOST_SPEED = 20;
        private static final int COALS = MOST_COAL + 1;
        private static final int PLACES = (MOST_MILES + 1) * COALS;
        private static final int SIZE = (MOST_DAYS + 1) * PLACES;

        private final int[] sailMiles = new int[WINDS];
        private final int[] weights = new int[WINDS];
        private final long[] chance = new long[SIZE];
        private final long[] burnt = new long[SIZE];
        private int engineMiles;
        private int daysReckoned;
        private int milesReckoned;
        private int coalReckoned;

        Passage() {
            // Who has come in needs neither wind nor COAL, so these places never change.
            for (int days = 0; days <= MOST_DAYS; days++) {
                for (int coal = 0; coal <= MOST_COAL; coal++) {
                    chance[at(days, 0, coal)] = parts(days);
                }
            }
        }

        int setSails(int wind, int miles) {
            if (!isWind(wind) || !isWithin(miles, 0, MOST_SPEED)) {
                return BAD_NUMBER;
            }
            sailMiles[wind] = miles;
            daysReckoned = 0;
            return 0;
        }

        int setEngine(int miles) {
            if (!isWithin(miles, 0, MOST_SPEED)) {
                return BAD_NUMBER;
            }
            int former = engineMiles;
            engineMiles = miles;
            daysReckoned = 0;
            return former;
        }

        void know(Weather weather, int known) {
            for (int wind = 0; wind < WINDS; wind++) {
                int weight = weather.weightOf(wind, known);
                if (weight != weights[wind]) {
                    weights[wind] = weight;
                    daysReckoned = 0;
                }
            }
        }

        void reckon(int miles, int days, int coal) {
            if (daysReckoned == 0 || miles > milesReckoned || coal > coalReckoned) {
                milesReckoned = miles;
                coalReckoned = coal;
                daysReckoned = 0;
            }
            while (daysReckoned < days) {
                daysReckoned++;
                reckonDay(daysReckoned);
            }
        }

        long chanceOf(int miles, int days, int coal) {
            return chance[at(days, miles, coal)];
        }

        long burntOf(int miles, int days, int coal) {
            return burnt[at(days, miles, coal)];
        }

        int fewestDays(int miles, int coal, int sixteenths) {
            for (int days = 0; days <= MOST_DAYS; days++) {
                reckon(miles, days, coal);
                if (chanceOf(miles, days, coal) * SIXTEEN >= sixteenths * parts(days)) {
                    return days;
                }
            }
            return NONE;
        }

        /** Needs days - 1 to be reckoned. */
        int bestChoice(int days, int miles, int coal, int wind) {
            int calm = calmChoice(days, miles, coal);
            boolean isCalmBetter = isBetter(afterCalm(calm, days, miles, coal), fuel(calm, days),
                    afterSails(days, miles, coal, wind), 0);
            return isCalmBetter ? calm : SAILING;
        }

        private void reckonDay(int days) {
            for (int miles = 1; miles <= milesReckoned; miles++) {
                for (int coal = 0; coal <= coalReckoned; coal++) {
                    reckonPlace(days, miles, coal);
                }
            }
        }

        private void reckonPlace(int days, int miles, int coal) {
            int calm = calmChoice(days, miles, coal);
            int calmPlace = afterCalm(calm, days, miles, coal);
            long calmFuel = fuel(calm, days);
            long chances = 0;
            long burns = 0;
            for (int wind = 0; wind < WINDS; wind++) {
                int sailPlace = afterSails(days, miles, coal, wind);
                if (isBetter(calmPlace, calmFuel, sailPlace, 0)) {
                    chances += weights[wind] * chance[calmPlace];
                    burns += weights[wind] * (burnt[calmPlace] + calmFuel);
                } else {
                    chances += weights[wind] * chance[sailPlace];
                    burns += weights[wind] * burnt[sailPlace];
                }
            }
            int place = at(days, miles, coal);
            chance[place] = chances;
            burnt[place] = burns;
        }

        /** The better of ENGINE and waiting: no WIND changes either, so one look serves all four. */
        private int calmChoice(int days, int miles, int coal) {
            if (coal == 0) {
                return WAITING;
            }
            boolean isWaitBetter = isBetter(afterCalm(WAITING, days, miles, coal), 0,
                    afterCalm(STEAMING, days, miles, coal), fuel(STEAMING, days));
            return isWaitBetter ? WAITING : STEAMING;
        }

        private int afterCalm(int choice, int days, int miles, int coal) {
            if (choice == STEAMING) {
                return at(days - 1, Math.max(0, miles - engineMiles), coal - 1);
            }
            return at(days - 1, miles, coal);
        }

        private int afterSails(int days, int miles, int coal, int wind) {
            return at(days - 1, Math.max(0, miles - sailMiles[wind]), coal);
        }

        private static long fuel(int choice, int days) {
            return choice == STEAMING ? parts(days - 1) : 0;
        }

        /** Strictly better, so that of alike choices the one asked about second stays. */
        private boolean isBetter(int place, long fuel, int otherPlace, long otherFuel) {
            if (chance[place] != chance[otherPlace]) {
                return chance[place] > chance[otherPlace];
            }
            return burnt[place] + fuel < burnt[otherPlace] + otherFuel;
        }

        private static int at(int days, int miles, int coal) {
            return days * PLACES + miles * COALS + coal;
        }

        /** 16 to the days-th. */
        private static long parts(int days) {
            return 1L << (4 * days);
        }
    }

    /** The LOADS, and those of them that make the STOWED ones. */
    private static final class Hold {
        private static final int MOST_TONS = 200;
        private static final int MOST_WORTH = 10000;

        private final int[] tons = new int[MOST_LOADS];
        private final int[] worth = new int[MOST_LOADS];
        private final int[] apartBits = new int[MOST_LOADS];
        private int loads;
        private int room;
        private int bestBits;
        private int bestTons;
        private int bestWorth;

        boolean has(int load) {
            return isWithin(load, 0, loads - 1);
        }

        int add(int newTons, int newWorth) {
            if (!isWithin(newTons, 1, MOST_TONS) || !isWithin(newWorth, 0, MOST_WORTH)) {
                return BAD_NUMBER;
            }
            if (loads >= MOST_LOADS) {
                return NO_ROOM;
            }
            tons[loads] = newTons;
            worth[loads] = newWorth;
            loads++;
            return loads - 1;
        }

        int setApart(int a, int b, boolean is) {
            if (!has(a) || !has(b)) {
                return NO_SUCH;
            }
            if (a == b) {
                return CANNOT_BE;
            }
            markApart(a, b, is);
            markApart(b, a, is);
            return 0;
        }

        private void markApart(int load, int other, boolean is) {
            int bit = 1 << other;
            apartBits[load] = is ? apartBits[load] | bit : apartBits[load] & ~bit;
        }

        void fill(int tonsOfRoom) {
            room = tonsOfRoom;
            bestBits = 0;
            bestTons = 0;
            bestWorth = 0;
            choose(loads - 1, 0, 0, 0);
        }

        /**
         * Goes from the highest LOAD down and leaves each out before it takes it, so the bits come
         * in rising order and of alike ones the lowest are met first.
         */
        private void choose(int load, int bits, int allTons, int allWorth) {
            if (load < 0) {
                keepIfBetter(bits, allTons, allWorth);
                return;
            }
            choose(load - 1, bits, allTons, allWorth);
            if (allTons + tons[load] <= room && (apartBits[load] & bits) == 0) {
                choose(load - 1, bits | 1 << load, allTons + tons[load], allWorth + worth[load]);
            }
        }

        private void keepIfBetter(int bits, int allTons, int allWorth) {
            if (allWorth > bestWorth || allWorth == bestWorth && allTons < bestTons) {
                bestBits = bits;
                bestTons = allTons;
                bestWorth = allWorth;
            }
        }
    }

    /** The PORTS with their BERTHS, and the SLOTS. */
    private static final class Harbour {
        private static final int PORTS = 6;
        private static final int MOST_BERTHS = 3;
        private static final int MOST_SLOTS = 60;
        private static final int MOST_STAY = 30;
        private static final int LAST_DAY = 400;

        private final int[] berthsOf = new int[PORTS];
        private final int[] port = new int[MOST_SLOTS];
        private final int[] berth = new int[MOST_SLOTS];
        private final int[] first = new int[MOST_SLOTS];
        private final int[] last = new int[MOST_SLOTS];
        private final boolean[] isGivenUp = new boolean[MOST_SLOTS];
        private int told;
        private int held;

        Harbour() {
            for (int i = 0; i < PORTS; i++) {
                berthsOf[i] = 1;
            }
        }

        int setBerths(int where, int many) {
            if (!isWithin(many, 1, MOST_BERTHS)) {
                return BAD_NUMBER;
            }
            if (!isPort(where)) {
                return NO_SUCH;
            }
            for (int slot = 0; slot < told; slot++) {
                if (!isGivenUp[slot] && port[slot] == where && berth[slot] >= many) {
                    return CANNOT_BE;
                }
            }
            int former = berthsOf[where];
            berthsOf[where] = many;
            return former;
        }

        int grant(int where, int from, int days) {
            if (!isWithin(from, 0, LAST_DAY) || !isWithin(days, 1, MOST_STAY)) {
                return BAD_NUMBER;
            }
            if (!isPort(where)) {
                return NO_SUCH;
            }
            int bestBerth = 0;
            int bestDay = firstFree(where, 0, from, days);
            for (int i = 1; i < berthsOf[where]; i++) {
                int day = firstFree(where, i, from, days);
                if (day < bestDay) {
                    bestBerth = i;
                    bestDay = day;
                }
            }
            int lastDay = bestDay + days - 1;
            if (lastDay > LAST_DAY) {
                return CANNOT_BE;
            }
            if (told >= MOST_SLOTS) {
                return NO_ROOM;
            }
            return keep(where, bestBerth, bestDay, lastDay);
        }

        private int keep(int where, int atBerth, int firstDay, int lastDay) {
            port[told] = where;
            berth[told] = atBerth;
            first[told] = firstDay;
            last[told] = lastDay;
            held++;
            told++;
            return told - 1;
        }

        /** A SLOT in the way is in the way of every day until its end, so each is passed but once. */
        private int firstFree(int where, int atBerth, int from, int days) {
            int day = from;
            for (int passed = 0; passed < told; passed++) {
                int slot = slotInTheWay(where, atBerth, day, day + days - 1);
                if (slot == NONE) {
                    return day;
                }
                day = last[slot] + 1;
            }
            return day;
        }

        private int slotInTheWay(int where, int atBerth, int firstDay, int lastDay) {
            for (int slot = 0; slot < told; slot++) {
                if (!isGivenUp[slot] && port[slot] == where && berth[slot] == atBerth
                        && first[slot] <= lastDay && firstDay <= last[slot]) {
                    return slot;
                }
            }
            return NONE;
        }

        int tell(int slot, int what) {
            if (!isHeld(slot)) {
                return NONE;
            }
            switch (what) {
                case 0:
                    return port[slot];
                case 1:
                    return berth[slot];
                case 2:
                    return first[slot];
                case 3:
                    return last[slot];
                default:
                    return NONE;
            }
        }

        int giveUp(int slot) {
            if (!isHeld(slot)) {
                return NO_SUCH;
            }
            isGivenUp[slot] = true;
            held--;
            return 0;
        }

        private boolean isHeld(int slot) {
            return isWithin(slot, 0, told - 1) && !isGivenUp[slot];
        }

        private static boolean isPort(int n) {
            return isWithin(n, 0, PORTS - 1);
        }
    }

    /** The bytes that wait to become a CONTRACT. */
    private static final class Tape {
        private static final int MOST_BYTES = 200;
        private static final int BYTES_A_FEED = 20;

        private final int[] bytes = new int[MOST_BYTES];
        private int length;

        boolean hasRoom() {
            return length + BYTES_A_FEED <= MOST_BYTES;
        }

        void add(int four) {
            for (int shift = 24; shift >= 0 && length < MOST_BYTES; shift -= 8) {
                bytes[length] = four >>> shift & 255;
                length++;
            }
        }
    }

    /** The CLAUSES of a CONTRACT. */
    private static final class Terms {
        private static final int MOST_CLAUSES = 20;
        private static final int PAY = 0;
        private static final int PER_TON = 1;
        private static final int LATE = 2;
        private static final int EARLY = 3;
        private static final int LOW_SMOKE = 4;
        private static final int MOST = 5;
        private static final int LEAST = 6;
        private static final int KINDS = 7;

        private final int[] kind = new int[MOST_CLAUSES];
        private final int[] amount = new int[MOST_CLAUSES];
        private final int[] mark = new int[MOST_CLAUSES];
        private int clauses;

        void add(int newKind, int newAmount, int newMark) {
            if (clauses < MOST_CLAUSES) {
                kind[clauses] = newKind;
                amount[clauses] = newAmount;
                mark[clauses] = newMark;
                clauses++;
            }
        }

        long sum(int tons, int day, int smoke) {
            long sum = 0;
            for (int i = 0; i < clauses; i++) {
                sum = after(i, sum, tons, day, smoke);
            }
            return sum;
        }

        private long after(int clause, long sum, int tons, int day, int smoke) {
            long n = amount[clause];
            long m = mark[clause];
            switch (kind[clause]) {
                case PAY:
                    return sum + n;
                case PER_TON:
                    return sum + n * tons;
                case LATE:
                    return sum - n * Math.max(0, day - m);
                case EARLY:
                    return sum + n * Math.max(0, m - day);
                case LOW_SMOKE:
                    return smoke < m * tons ? sum + n : sum;
                case MOST:
                    return Math.min(sum, n);
                case LEAST:
                    return Math.max(sum, n);
                default:
                    return sum;
            }
        }

        static String firstWord(int kind) {
            switch (kind) {
                case PAY:
                    return "pay";
                case PER_TON:
                    return "per";
                case LATE:
                    return "late";
                case EARLY:
                    return "early";
                case LOW_SMOKE:
                    return "smoke";
                case MOST:
                    return "most";
                case LEAST:
                    return "least";
                default:
                    return "";
            }
        }

        /** The word between a CLAUSE's two NUMBERS; empty for a CLAUSE with one. */
        static String wordBetween(int kind) {
            switch (kind) {
                case LATE:
                    return "behind";
                case EARLY:
                    return "ahead";
                case LOW_SMOKE:
                    return "below";
                default:
                    return "";
            }
        }
    }

    /** Reads the TAPE TOKEN by TOKEN; where it stops on a TOKEN that can't go on, that is the FAULT. */
    private static final class Reader {
        private static final int BLANK = 32;
        private static final int OTHER = 0;
        private static final int LETTER = 1;
        private static final int DIGIT = 2;

        private final Tape tape;
        private int tokenStart;
        private int tokenEnd;

        Reader(Tape tape) {
            this.tape = tape;
        }

        /** The place of the FAULT, or NONE. */
        int read(Terms into) {
            into.clauses = 0;
            tokenEnd = 0;
            advance();
            if (isAtEnd()) {
                return NONE;
            }
            for (int i = 0; i < Terms.MOST_CLAUSES; i++) {
                if (!readClause(into)) {
                    return tokenStart;
                }
                if (isAtEnd()) {
                    return NONE;
                }
                if (!passes(";")) {
                    return tokenStart;
                }
            }
            return tokenStart;
        }

        private boolean readClause(Terms into) {
            int kind = kindHere();
            if (kind == NONE) {
                return false;
            }
            advance();
            if (kind == Terms.PER_TON && !passes("ton")) {
                return false;
            }
            int amount = numberHere();
            if (amount == NONE) {
                return false;
            }
            advance();
            int mark = 0;
            String between = Terms.wordBetween(kind);
            if (!between.isEmpty()) {
                if (!passes(between)) {
                    return false;
                }
                mark = numberHere();
                if (mark == NONE) {
                    return false;
                }
                advance();
            }
            into.add(kind, amount, mark);
            return true;
        }

        private int kindHere() {
            for (int kind = 0; kind < Terms.KINDS; kind++) {
                if (isHere(Terms.firstWord(kind))) {
                    return kind;
                }
            }
            return NONE;
        }

        /** The NUMBER that stands here, or NONE for another TOKEN and for one beyond 10,000. */
        private int numberHere() {
            if (isAtEnd() || sortOf(tape.bytes[tokenStart]) != DIGIT) {
                return NONE;
            }
            int number = 0;
            for (int i = tokenStart; i < tokenEnd; i++) {
                number = number * 10 + tape.bytes[i] - '0';
                if (number > MOST_TERM) {
                    return NONE;
                }
            }
            return number;
        }

        private boolean passes(String word) {
            if (!isHere(word)) {
                return false;
            }
            advance();
            return true;
        }

        private boolean isHere(String word) {
            if (tokenEnd - tokenStart != word.length()) {
                return false;
            }
            for (int i = 0; i < word.length(); i++) {
                if (tape.bytes[tokenStart + i] != word.charAt(i)) {
                    return false;
                }
            }
            return true;
        }

        private boolean isAtEnd() {
            return tokenStart >= tape.length;
        }

        private void advance() {
            tokenStart = tokenEnd;
            while (tokenStart < tape.length && tape.bytes[tokenStart] == BLANK) {
                tokenStart++;
            }
            tokenEnd = tokenStart;
            if (isAtEnd()) {
                return;
            }
            int sort = sortOf(tape.bytes[tokenStart]);
            tokenEnd++;
            while (sort != OTHER && tokenEnd < tape.length && sortOf(tape.bytes[tokenEnd]) == sort) {
                tokenEnd++;
            }
        }

        private static int sortOf(int value) {
            if (isWithin(value, 'a', 'z')) {
                return LETTER;
            }
            return isWithin(value, '0', '9') ? DIGIT : OTHER;
        }
    }

    /** The LEGS, and which LOADS are ABOARD on them. */
    private static final class Voyage {
        private static final int MOST_LEGS = 10;
        private static final int MOST_LEG_SMOKE = 100000;

        private final Hold hold;
        private final int[] legSmoke = new int[MOST_LEGS];
        private final int[] firstLeg = new int[MOST_LOADS];
        private final int[] lastLeg = new int[MOST_LOADS];
        private int legs;

        Voyage(Hold hold) {
            this.hold = hold;
            for (int load = 0; load < MOST_LOADS; load++) {
                lastLeg[load] = NONE;
            }
        }

        boolean has(int leg) {
            return isWithin(leg, 0, legs - 1);
        }

        int add(int smoke) {
            if (!isWithin(smoke, 0, MOST_LEG_SMOKE)) {
                return BAD_NUMBER;
            }
            if (legs >= MOST_LEGS) {
                return NO_ROOM;
            }
            legSmoke[legs] = smoke;
            legs++;
            return legs - 1;
        }

        int take(int load, int from, int to) {
            if (to < from) {
                return BAD_NUMBER;
            }
            if (!hold.has(load) || !has(from) || !has(to)) {
                return NO_SUCH;
            }
            firstLeg[load] = from;
            lastLeg[load] = to;
            return 0;
        }

        int partOf(int load, int leg) {
            int all = tonsAboard(leg);
            if (all == 0 || !isAboard(load, leg)) {
                return 0;
            }
            int share = legSmoke[leg] * hold.tons[load];
            int left = legSmoke[leg];
            int ahead = 0;
            for (int other = 0; other < hold.loads; other++) {
                if (isAboard(other, leg)) {
                    int otherShare = legSmoke[leg] * hold.tons[other];
                    left -= otherShare / all;
                    if (isServedFirst(otherShare % all, other, share % all, load)) {
                        ahead++;
                    }
                }
            }
            return share / all + (ahead < left ? 1 : 0);
        }

        private static boolean isServedFirst(int rest, int load, int otherRest, int otherLoad) {
            return rest > otherRest || rest == otherRest && load < otherLoad;
        }

        int smokeOf(int load) {
            int sum = 0;
            for (int leg = 0; leg < legs; leg++) {
                sum += partOf(load, leg);
            }
            return sum;
        }

        int ownSmoke() {
            int sum = 0;
            for (int leg = 0; leg < legs; leg++) {
                if (tonsAboard(leg) == 0) {
                    sum += legSmoke[leg];
                }
            }
            return sum;
        }

        private int tonsAboard(int leg) {
            int sum = 0;
            for (int load = 0; load < hold.loads; load++) {
                if (isAboard(load, leg)) {
                    sum += hold.tons[load];
                }
            }
            return sum;
        }

        private boolean isAboard(int load, int leg) {
            return firstLeg[load] <= leg && leg <= lastLeg[load];
        }
    }
}
