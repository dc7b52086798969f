/**
 * Houses along a street, each with a few dates of the year on which it stays shut. The document
 * (DOC.md) lays down every term that is used here; README.md says how the file is laid out.
 */
public final class ShutDays {
    public static final int NONE = -1;

    private static final int WRONG = -2;
    private static final int DATES = 20;
    private static final int EVERY_DATE = (1 << DATES) - 1;
    private static final int LAST_DAY = 9999;
    private static final int MOST_HOUSES = 7;
    private static final int MOST_SHUT = 3;
    private static final int MOST_PURSE = 9999;
    private static final int MOST_FRIENDS = 99;
    private static final int MOST_BOOK = 40;
    private static final int MOST_STEPS = 30;
    private static final int MOST_TOLD = 8;
    private static final int MOST_TEXTS = 4;
    private static final int MOST_BYTES = 300;
    private static final int MOST_CLAUSES = 24;
    private static final int MOST_OPEN = 8;
    private static final int MOST_PASSED = 60;
    private static final int MOST_LAW = 99;
    private static final int MOST_VALUE = 1000000;
    private static final int MOST_NUMBER = 9999;
    private static final int MOST_MET = 5;
    private static final int MOST_SEED = 9999;
    private static final int MOST_TURNS = 40;

    private static final int FIRST_X = 131;
    private static final int X_TIMES = 359;
    private static final int X_MORE = 239;
    private static final int X_ROUND = 30431;

    // Kinds of tokens. Those of one sign stand in the order of SIGNS, those of letters in the
    // order of WORDS, with the names first: a name's place in the row of names is its kind less DAY.
    private static final int END = 0;
    private static final int NOTHING = 1;
    private static final int NUMBER = 2;
    private static final int LESS = 3;
    private static final int MORE = 4;
    private static final int LIKE = 5;
    private static final int UNLIKE = 6;
    private static final int PLUS = 7;
    private static final int MINUS = 8;
    private static final int TIMES = 9;
    private static final int OVER = 10;
    private static final int OPENING = 11;
    private static final int CLOSING = 12;
    private static final int SEMICOLON = 13;
    private static final int AT_MOST = 14;
    private static final int AT_LEAST = 15;
    private static final int DAY = 16;
    private static final int DATE = 17;
    private static final int HOUSE = 18;
    private static final int PURSE = 19;
    private static final int FRIENDS = 20;
    private static final int DAYS = 21;
    private static final int OPEN = 22;
    private static final int BESIDE = 23;
    private static final int EARNS = 24;
    private static final int LOSES = 25;
    private static final int LETS = 26;
    private static final int KNOCK = 27;
    private static final int MARRY = 28;
    private static final int HAT = 29;
    private static final int FORGET = 30;
    private static final int TO = 31;
    private static final int OF = 32;
    private static final int OR = 33;
    private static final int AND = 34;
    private static final int NOT = 35;
    private static final int DIVIDES = 36;
    private static final int DIGIT = 37;
    private static final int NEGATED = 38;

    private static final String SIGNS = "<>=#+-*/();";
    private static final int WORD_WIDTH = 8;
    private static final int HOW_MANY_WORDS = 22;
    private static final String WORDS =
            "day     date    house   purse   friends days    open    beside  earns   loses   lets    knock   marry   hat     forget  to      of      or      and     not     divides digit   ";

    // In a law's code a number stands as it is, all else as its kind behind the numbers.
    private static final int CODE_OF_KINDS = MOST_NUMBER + 1;

    private static final int NO_FAULT = 0;
    private static final int MISPLACED = 1;
    private static final int OUT_OF_RANGE = 2;
    private static final int TOO_DEEP = 3;
    private static final int LAW_TWICE = 4;
    private static final int NAME_ELSEWHERE = 5;
    private static final int TOO_MANY_CLAUSES = 6;

    private final int[] tape;
    private int tapeLength;
    private boolean wasRead;
    private final Reader reader;
    private final Text[] texts;
    private final Text lawless;
    private final Laws laws;
    private final World now;
    private final World image;
    private final Town trial;
    private final Guess guess;
    private final Diary diary;
    private final Couples couples;

    public ShutDays() {
        tape = new int[MOST_BYTES];
        reader = new Reader();
        texts = new Text[MOST_TEXTS];
        for (int i = 0; i < MOST_TEXTS; i++) {
            texts[i] = new Text();
        }
        lawless = new Text();
        laws = new Laws();
        now = new World();
        image = new World();
        trial = new Town();
        guess = new Guess();
        diary = new Diary();
        couples = new Couples();
    }

    public int house(int a, int b, int c, int purse, int friends) {
        if (!isDateOrNone(a) || !isDateOrNone(b) || !isDateOrNone(c)) {
            return NONE;
        }
        if (isSameDate(a, b) || isSameDate(a, c) || isSameDate(b, c)) {
            return NONE;
        }
        if (!isWithin(purse, 0, MOST_PURSE) || !isWithin(friends, 0, MOST_FRIENDS)) {
            return NONE;
        }
        return now.town.settle(bitOf(a) | bitOf(b) | bitOf(c), purse, friends);
    }

    public int feed(int a, int b, int c, int d, int e) {
        if (tapeLength > MOST_BYTES - 20) {
            return NONE;
        }
        appendBytes(a);
        appendBytes(b);
        appendBytes(c);
        appendBytes(d);
        appendBytes(e);
        return tapeLength;
    }

    public int end(int n) {
        if (!isWithin(n, 0, tapeLength)) {
            return NONE;
        }
        tapeLength = n;
        return n;
    }

    public int text() {
        if (now.texts >= MOST_TEXTS) {
            return NONE;
        }
        reader.read(tape, tapeLength);
        wasRead = true;
        tapeLength = 0;
        if (reader.fault != NO_FAULT) {
            return NONE;
        }
        texts[now.texts].copyFrom(reader.draft);
        now.texts++;
        return now.texts - 1;
    }

    public int fault(int what) {
        if (!wasRead) {
            return NONE;
        }
        if (what == 0) {
            return reader.fault;
        }
        return what == 1 ? reader.place : NONE;
    }

    public boolean by(int text) {
        if (text != NONE && !isText(text)) {
            return false;
        }
        now.ruling = text;
        return true;
    }

    public int knock(int house) {
        if (!now.town.lives(house)) {
            return NONE;
        }
        now.keepStep();
        return knockAt(house);
    }

    public int marry(int house, int other) {
        int dates = now.town.marriedDates(house, other);
        if (dates == NONE) {
            return NONE;
        }
        now.keepStep();
        now.town.join(house, other, dates);
        return dates;
    }

    public int hat(int house) {
        if (!now.town.canDraw(house)) {
            return NONE;
        }
        now.keepStep();
        return now.town.drawDate(house);
    }

    public boolean forget(int date, int house) {
        if (!now.town.canForget(date, house)) {
            return false;
        }
        now.keepStep();
        now.town.dropDate(date, house);
        return true;
    }

    public int day(int n) {
        if (!isWithin(n, 1, MOST_PASSED) || now.town.day + n > LAST_DAY) {
            return NONE;
        }
        passDays(n);
        return now.town.date();
    }

    public int played(int text) {
        if (!isText(text)) {
            return WRONG;
        }
        Text script = texts[text];
        for (int i = 0; i < script.clauses; i++) {
            if (!isCarriedOut(script, i)) {
                return i;
            }
        }
        return NONE;
    }

    public int years(int seed, int n) {
        if (!isWithin(seed, 0, MOST_SEED) || !isWithin(n, 1, MOST_TURNS) || now.town.houses == 0) {
            return NONE;
        }
        now.keepStep();
        now.town.x = seed * 2 + FIRST_X;
        for (int i = 0; i < n; i++) {
            takeTurn();
        }
        return now.town.day;
    }

    public int undo() {
        return now.takeStepBack();
    }

    public int of(int house, int what) {
        Town town = now.town;
        if (!town.told(house)) {
            return NONE;
        }
        switch (what) {
            case 0:
                return town.shut[house];
            case 1:
                return town.purse[house];
            case 2:
                return town.friends[house];
            case 3:
                return town.isGone(house) ? 1 : 0;
            case 4:
                return town.isShut(house, town.date()) ? 1 : 0;
            default:
                return underTheLaw(house, what);
        }
    }

    public int is(int what) {
        Town town = now.town;
        switch (what) {
            case 0:
                return town.day;
            case 1:
                return town.date();
            case 2:
                return town.x;
            case 3:
                return Integer.bitCount(town.openOn(town.date()));
            default:
                return WRONG;
        }
    }

    public int book(int i, int what) {
        Town town = now.town;
        if (i == NONE) {
            return town.written;
        }
        if (!isWithin(i, 0, town.written - 1)) {
            return WRONG;
        }
        switch (what) {
            case 0:
                return town.dayOfKnock(i);
            case 1:
                return town.houseOfKnock(i);
            case 2:
                return town.wasShut(i) ? 1 : 0;
            default:
                return WRONG;
        }
    }

    public int foretold(int n, int house) {
        if (!isWithin(n, 1, MOST_PASSED) || !now.town.told(house)) {
            return NONE;
        }
        tryDays(n, rule());
        return trial.purse[house];
    }

    public int indoors(int h) {
        if (!isWithin(h, 1, MOST_HOUSES)) {
            return NONE;
        }
        for (int i = 0; i <= MOST_PASSED; i++) {
            if (now.town.howManyShut((now.town.day + i) % DATES) >= h) {
                return i;
            }
        }
        return NONE;
    }

    public int crowded(boolean many) {
        int best = 0;
        for (int date = 1; date < DATES; date++) {
            if (now.town.howManyShut(date) > now.town.howManyShut(best)) {
                best = date;
            }
        }
        return many ? now.town.howManyShut(best) : best;
    }

    public int feast(boolean many) {
        int best = 0;
        for (int date = 1; date < DATES; date++) {
            if (now.town.guestsOn(date) > now.town.guestsOn(best)) {
                best = date;
            }
        }
        return many ? now.town.guestsOn(best) : best;
    }

    public int alone() {
        Town town = now.town;
        int bits = 0;
        for (int h = 0; h < town.houses; h++) {
            if (town.lives(h) && (town.shut[h] & town.datesBut(h)) == 0) {
                bits |= 1 << h;
            }
        }
        return bits;
    }

    public int nobodys() {
        return EVERY_DATE & ~now.town.datesBut(NONE);
    }

    public int poorest(int n) {
        if (!isWithin(n, 1, MOST_PASSED)) {
            return NONE;
        }
        tryDays(n, rule());
        int poor = NONE;
        for (int h = 0; h < trial.houses; h++) {
            if (trial.lives(h) && (poor == NONE || trial.purse[h] < trial.purse[poor])) {
                poor = h;
            }
        }
        return poor;
    }

    public int seen(int house, int date, boolean shut) {
        if (house == NONE) {
            now.seenCount = 0;
            return 0;
        }
        if (!now.town.told(house) || !isDate(date) || now.seenCount >= MOST_TOLD) {
            return WRONG;
        }
        now.seenHouse[now.seenCount] = house;
        now.seenDate[now.seenCount] = date;
        now.seenShut[now.seenCount] = shut ? 1 : 0;
        now.seenCount++;
        return now.seenCount;
    }

    public int sets(int house, int m, boolean sure) {
        if (!isGuess(house, m)) {
            return NONE;
        }
        guess.lookAt(now, house, m);
        return sure ? guess.inAll() : guess.count;
    }

    public int odds(int house, int m, int date, boolean low) {
        if (!isGuess(house, m) || !isDate(date)) {
            return NONE;
        }
        guess.lookAt(now, house, m);
        if (guess.count == 0) {
            return low ? 1 : 0;
        }
        int with = guess.countWith(date);
        int common = commonDivisor(guess.count, with);
        if (common == 0) {
            return NONE;
        }
        return (low ? guess.count : with) / common;
    }

    public int nextKnock(int house, int m) {
        if (!isGuess(house, m)) {
            return NONE;
        }
        guess.lookAt(now, house, m);
        int best = NONE;
        for (int date = 0; date < DATES; date++) {
            int with = guess.countWith(date);
            if (with > 0 && with < guess.count
                    && (best == NONE || guess.offHalf(date) < guess.offHalf(best))) {
                best = date;
            }
        }
        return best;
    }

    public int thieves(int date, int k, boolean first) {
        if (!isDate(date) || !isWithin(k, 1, MOST_HOUSES)) {
            return WRONG;
        }
        int house = now.town.robbedFirst(date, k);
        return first ? house : now.town.loot(house, date, k);
    }

    public int night(int k) {
        if (!isWithin(k, 1, MOST_HOUSES)) {
            return NONE;
        }
        int best = 0;
        int most = NONE;
        for (int date = 0; date < DATES; date++) {
            int much = now.town.loot(now.town.robbedFirst(date, k), date, k);
            if (much > most) {
                most = much;
                best = date;
            }
        }
        return best;
    }

    public int appointments(int houses, int house) {
        int met = Integer.bitCount(houses);
        if ((houses & ~now.town.living()) != 0 || !isWithin(met, 1, MOST_MET)) {
            return WRONG;
        }
        if (house != NONE && (!now.town.told(house) || (houses >> house & 1) == 0)) {
            return WRONG;
        }
        diary.plan(now.town, houses);
        return house == NONE ? diary.length : diary.dayOf[house];
    }

    public int rounds() {
        if (now.town.living() == 0) {
            return 0;
        }
        for (int date = 0; date < DATES; date++) {
            if (now.town.allOpenOnce(1 << date)) {
                return 1 << date;
            }
        }
        // Seven houses of three dates keep at most 21 of the 190 twos: one of the others will do.
        for (int high = 1; high < DATES; high++) {
            for (int low = 0; low < high; low++) {
                if (now.town.allOpenOnce(1 << high | 1 << low)) {
                    return 1 << high | 1 << low;
                }
            }
        }
        return 0;
    }

    public int weddings(int house) {
        if (house != NONE && !now.town.told(house)) {
            return WRONG;
        }
        couples.choose(now.town);
        return house == NONE ? couples.most : couples.best[house];
    }

    public int twins() {
        Town town = now.town;
        int twos = 0;
        for (int h = 0; h < town.houses; h++) {
            for (int g = 0; g < h; g++) {
                if (town.lives(h) && town.lives(g) && town.shut[h] == town.shut[g]) {
                    twos++;
                }
            }
        }
        return twos;
    }

    public int gossip(int one, int other) {
        if (one == NONE) {
            now.gossipCount = 0;
            return 0;
        }
        if (!now.town.told(one) || !now.town.told(other) || one == other) {
            return WRONG;
        }
        if (now.gossipCount >= MOST_TOLD) {
            return WRONG;
        }
        now.gossipFrom[now.gossipCount] = one;
        now.gossipTo[now.gossipCount] = other;
        now.gossipCount++;
        return now.gossipCount;
    }

    public int knows(int house, int other) {
        if (!now.town.told(house) || !now.town.told(other)) {
            return NONE;
        }
        int knowing = 1 << other;
        for (int i = 0; i <= MOST_HOUSES; i++) {
            if ((knowing >> house & 1) == 1) {
                return i;
            }
            knowing = now.knowingNext(knowing);
        }
        return NONE;
    }

    public int never(int house) {
        if (!now.town.told(house)) {
            return NONE;
        }
        int knowing = 1 << house;
        for (int i = 0; i <= MOST_HOUSES; i++) {
            knowing = now.knowingNext(knowing);
        }
        return ((1 << now.town.houses) - 1) & ~knowing;
    }

    public int richest(boolean earned) {
        int best = 0;
        int most = NONE;
        for (int date = 0; date < DATES; date++) {
            int much = earnedOn(date);
            if (much > most) {
                most = much;
                best = date;
            }
        }
        return earned ? most : best;
    }

    public int whose(int n) {
        if (!isWithin(n, 1, MOST_PASSED)) {
            return NONE;
        }
        int best = NONE;
        int most = NONE;
        for (int i = 0; i < now.texts && i < MOST_TEXTS; i++) {
            tryDays(n, texts[i]);
            int much = trial.wealth();
            if (much > most) {
                most = much;
                best = i;
            }
        }
        return best;
    }

    public int knocks(int house, boolean shut) {
        if (house != NONE && !now.town.told(house)) {
            return WRONG;
        }
        return now.town.howManyKnocks(house, shut);
    }

    public int offended() {
        int best = NONE;
        int most = 0;
        for (int h = 0; h < now.town.houses; h++) {
            int many = now.town.howManyKnocks(h, true);
            if (many > most) {
                most = many;
                best = h;
            }
        }
        return best;
    }

    public int leap(int house, int other) {
        if (!now.town.told(house) || !now.town.told(other)) {
            return NONE;
        }
        int dates = now.town.shut[house];
        for (int i = 0; i < DATES; i++) {
            if (dates == now.town.shut[other]) {
                return i;
            }
            dates = (dates << 1 | dates >> (DATES - 1)) & EVERY_DATE;
        }
        return NONE;
    }

    public int image() {
        image.copyFrom(now);
        return now.town.day;
    }

    public int back() {
        now.copyFrom(image);
        return now.town.day;
    }

    public int about(int what) {
        switch (what) {
            case 0:
                return now.town.houses;
            case 1:
                return now.texts;
            case 2:
                return now.ruling;
            case 3:
                return now.stepCount;
            case 4:
                return now.seenCount;
            case 5:
                return now.gossipCount;
            case 6:
                return tapeLength;
            default:
                return WRONG;
        }
    }

    private static boolean isWithin(int n, int least, int most) {
        return n >= least && n <= most;
    }

    private static boolean isDate(int n) {
        return isWithin(n, 0, DATES - 1);
    }

    private static boolean isDateOrNone(int n) {
        return n == NONE || isDate(n);
    }

    private static boolean isSameDate(int a, int b) {
        return a != NONE && a == b;
    }

    private static int bitOf(int date) {
        return date == NONE ? 0 : 1 << date;
    }

    private static int commonDivisor(int a, int b) {
        int high = a;
        int low = b;
        for (int i = 0; i < MOST_BYTES && low != 0; i++) {
            int rest = high % low;
            high = low;
            low = rest;
        }
        return high;
    }

    private boolean isText(int n) {
        return isWithin(n, 0, now.texts - 1) && n < MOST_TEXTS;
    }

    private boolean isGuess(int house, int m) {
        return now.town.told(house) && isWithin(m, 1, MOST_SHUT);
    }

    private Text rule() {
        return isText(now.ruling) ? texts[now.ruling] : lawless;
    }

    private void appendBytes(int four) {
        for (int shift = 24; shift >= 0 && tapeLength < MOST_BYTES; shift -= 8) {
            tape[tapeLength] = four >> shift & 255;
            tapeLength++;
        }
    }

    private int underTheLaw(int house, int what) {
        Town town = now.town;
        laws.lookAt(town, town.day);
        switch (what) {
            case 5:
                return laws.earnedBy(rule(), town, house);
            case 6:
                return laws.lostBy(rule(), town, house);
            case 7:
                return laws.letsIn(rule(), town, house) ? 1 : 0;
            case 8:
                return laws.openBeside(house);
            default:
                return NONE;
        }
    }

    private int knockAt(int house) {
        Town town = now.town;
        boolean shut = town.isShut(house, town.date());
        town.writeKnock(house, shut);
        if (shut) {
            town.befriend(house, -1);
            return 1;
        }
        laws.lookAt(town, town.day);
        if (laws.letsIn(rule(), town, house)) {
            town.befriend(house, 1);
        }
        return 0;
    }

    private int passDays(int n) {
        int passed = 0;
        while (passed < n && now.town.day < LAST_DAY) {
            now.keepStep();
            laws.passDay(rule(), now.town);
            passed++;
        }
        return passed;
    }

    private void tryDays(int n, Text rule) {
        trial.copyFrom(now.town);
        for (int i = 0; i < n && trial.day < LAST_DAY; i++) {
            laws.passDay(rule, trial);
        }
    }

    private boolean isCarriedOut(Text script, int clause) {
        int a = script.numberOf(clause, 0);
        int b = script.numberOf(clause, 1);
        switch (script.kindOf(clause)) {
            case HOUSE:
                return house(a, NONE, NONE, b, script.numberOf(clause, 2)) != NONE;
            case KNOCK:
                return knock(a) != NONE;
            case MARRY:
                return marry(a, b) != NONE;
            case HAT:
                return isHatPassed(a);
            case FORGET:
                return forget(a, b);
            case DAY:
                return passDays(a) == a;
            default:
                return true;
        }
    }

    // A hat out of which none came was passed all the same: only one that can't be ends a script.
    private boolean isHatPassed(int house) {
        if (!now.town.canDraw(house)) {
            return false;
        }
        hat(house);
        return true;
    }

    private void takeTurn() {
        Town town = now.town;
        int x = town.drawX();
        int house = town.houses > 0 ? x % town.houses : NONE;
        switch (x % 6) {
            case 0:
            case 1:
                if (town.lives(house)) {
                    knockAt(house);
                }
                break;
            case 2:
                if (x % 4 == 0 && town.canDraw(house)) {
                    town.drawDate(house);
                }
                break;
            case 3:
                if (x % 3 == 0 && town.canForget(x % DATES, house)) {
                    town.dropDate(x % DATES, house);
                }
                break;
            default:
                if (town.day < LAST_DAY) {
                    laws.passDay(rule(), town);
                }
                break;
        }
    }

    private int earnedOn(int date) {
        Town town = now.town;
        int ahead = (date - town.date() + DATES) % DATES;
        laws.lookAt(town, town.day + ahead);
        int sum = 0;
        for (int h = 0; h < town.houses; h++) {
            if (laws.isOpen(h)) {
                sum += laws.earnedBy(rule(), town, h);
            }
        }
        return sum;
    }

    /** What a step changes: a step is taken back by the copy of this that was kept ahead of it. */
    private static final class Town {
        final int[] shut = new int[MOST_HOUSES];
        final int[] purse = new int[MOST_HOUSES];
        final int[] friends = new int[MOST_HOUSES];
        final int[] knocked = new int[MOST_BOOK];
        int written;
        int houses;
        int gone;
        int day;
        int x = FIRST_X;

        void copyFrom(Town other) {
            returnTo(other);
            houses = other.houses;
        }

        // Houses told since are left alone: every later step is back by then, so they are as told.
        void returnTo(Town ahead) {
            int known = Math.min(MOST_HOUSES, ahead.houses);
            System.arraycopy(ahead.shut, 0, shut, 0, known);
            System.arraycopy(ahead.purse, 0, purse, 0, known);
            System.arraycopy(ahead.friends, 0, friends, 0, known);
            System.arraycopy(ahead.knocked, 0, knocked, 0, MOST_BOOK);
            written = ahead.written;
            gone = ahead.gone;
            day = ahead.day;
            x = ahead.x;
        }

        boolean told(int house) {
            return house >= 0 && house < houses && house < MOST_HOUSES;
        }

        boolean isGone(int house) {
            return (gone >> house & 1) == 1;
        }

        boolean lives(int house) {
            return told(house) && !isGone(house);
        }

        int living() {
            return ((1 << houses) - 1) & ~gone;
        }

        int date() {
            return day % DATES;
        }

        boolean isShut(int house, int date) {
            return told(house) && (shut[house] >> date & 1) == 1;
        }

        int shutOn(int date) {
            int bits = 0;
            for (int h = 0; h < houses; h++) {
                bits |= (shut[h] >> date & 1) << h;
            }
            return bits & living();
        }

        int openOn(int date) {
            return living() & ~shutOn(date);
        }

        int howManyShut(int date) {
            return Integer.bitCount(shutOn(date));
        }

        int settle(int dates, int money, int company) {
            if (houses >= MOST_HOUSES) {
                return NONE;
            }
            shut[houses] = dates;
            purse[houses] = money;
            friends[houses] = company;
            houses++;
            return houses - 1;
        }

        void befriend(int house, int more) {
            if (told(house)) {
                friends[house] = Math.max(0, Math.min(MOST_FRIENDS, friends[house] + more));
            }
        }

        void writeKnock(int house, boolean wasShut) {
            if (written >= MOST_BOOK) {
                System.arraycopy(knocked, 1, knocked, 0, MOST_BOOK - 1);
                written = MOST_BOOK - 1;
            }
            knocked[written] = day << 4 | house << 1 | (wasShut ? 1 : 0);
            written++;
        }

        int dayOfKnock(int i) {
            return isWithin(i, 0, MOST_BOOK - 1) ? knocked[i] >> 4 : NONE;
        }

        int houseOfKnock(int i) {
            return isWithin(i, 0, MOST_BOOK - 1) ? knocked[i] >> 1 & 7 : NONE;
        }

        boolean wasShut(int i) {
            return isWithin(i, 0, MOST_BOOK - 1) && (knocked[i] & 1) == 1;
        }

        int howManyKnocks(int house, boolean wereShut) {
            int many = 0;
            for (int i = 0; i < written; i++) {
                if ((house == NONE || houseOfKnock(i) == house) && wasShut(i) == wereShut) {
                    many++;
                }
            }
            return many;
        }

        int marriedDates(int house, int other) {
            if (!lives(house) || !lives(other) || house == other) {
                return NONE;
            }
            int both = shut[house] & shut[other];
            if (both != 0) {
                return both;
            }
            int either = shut[house] | shut[other];
            return Integer.bitCount(either) <= MOST_SHUT ? either : NONE;
        }

        void join(int house, int other, int dates) {
            if (lives(house) && lives(other)) {
                shut[other] = dates;
                purse[other] = Math.min(MOST_PURSE, purse[house] + purse[other]);
                friends[other] = Math.min(MOST_FRIENDS, friends[house] + friends[other]);
                gone |= 1 << house;
            }
        }

        int drawX() {
            int drawn = x;
            x = (x * X_TIMES + X_MORE) % X_ROUND;
            return drawn;
        }

        boolean canDraw(int house) {
            return lives(house) && Integer.bitCount(shut[house]) < MOST_SHUT;
        }

        int drawDate(int house) {
            for (int i = 0; i < DATES && canDraw(house); i++) {
                int date = drawX() % DATES;
                if (!isShut(house, date)) {
                    shut[house] |= 1 << date;
                    return date;
                }
            }
            return NONE;
        }

        boolean canForget(int date, int house) {
            return isDate(date) && lives(house) && isShut(house, date);
        }

        void dropDate(int date, int house) {
            if (canForget(date, house)) {
                shut[house] &= ~(1 << date);
            }
        }

        int guestsOn(int date) {
            int open = openOn(date);
            int sum = 0;
            for (int h = 0; h < houses; h++) {
                if ((open >> h & 1) == 1) {
                    sum += friends[h];
                }
            }
            return sum;
        }

        int datesBut(int house) {
            int dates = 0;
            for (int h = 0; h < houses; h++) {
                if (h != house && lives(h)) {
                    dates |= shut[h];
                }
            }
            return dates;
        }

        boolean allOpenOnce(int dates) {
            for (int h = 0; h < houses; h++) {
                if (lives(h) && (dates & ~shut[h]) == 0) {
                    return false;
                }
            }
            return true;
        }

        // A purse is never below 0, so of the rows from one house on the longest has the most.
        int loot(int first, int date, int k) {
            if (!told(first)) {
                return 0;
            }
            int sum = 0;
            int counted = 0;
            for (int h = first; h < houses && counted < k; h++) {
                if (isGone(h)) {
                    continue;
                }
                if (!isShut(h, date)) {
                    return sum;
                }
                sum += purse[h];
                counted++;
            }
            return sum;
        }

        int robbedFirst(int date, int k) {
            int best = NONE;
            for (int h = 0; h < houses; h++) {
                if (lives(h) && isShut(h, date)
                        && (best == NONE || loot(h, date, k) > loot(best, date, k))) {
                    best = h;
                }
            }
            return best;
        }

        int wealth() {
            int sum = 0;
            for (int h = 0; h < houses; h++) {
                sum += purse[h];
            }
            return sum;
        }
    }

    /** All that an image keeps. The texts themselves needn't be: those of an image stay in place. */
    private static final class World {
        final Town town = new Town();
        final Town[] steps = new Town[MOST_STEPS];
        int eldestStep;
        int stepCount;
        int texts;
        int ruling = NONE;
        final int[] seenHouse = new int[MOST_TOLD];
        final int[] seenDate = new int[MOST_TOLD];
        final int[] seenShut = new int[MOST_TOLD];
        int seenCount;
        final int[] gossipFrom = new int[MOST_TOLD];
        final int[] gossipTo = new int[MOST_TOLD];
        int gossipCount;

        World() {
            for (int i = 0; i < MOST_STEPS; i++) {
                steps[i] = new Town();
            }
        }

        void copyFrom(World other) {
            town.copyFrom(other.town);
            for (int i = 0; i < MOST_STEPS; i++) {
                steps[i].copyFrom(other.steps[i]);
            }
            eldestStep = other.eldestStep;
            stepCount = other.stepCount;
            texts = other.texts;
            ruling = other.ruling;
            System.arraycopy(other.seenHouse, 0, seenHouse, 0, MOST_TOLD);
            System.arraycopy(other.seenDate, 0, seenDate, 0, MOST_TOLD);
            System.arraycopy(other.seenShut, 0, seenShut, 0, MOST_TOLD);
            seenCount = other.seenCount;
            System.arraycopy(other.gossipFrom, 0, gossipFrom, 0, MOST_TOLD);
            System.arraycopy(other.gossipTo, 0, gossipTo, 0, MOST_TOLD);
            gossipCount = other.gossipCount;
        }

        void keepStep() {
            steps[(eldestStep + stepCount) % MOST_STEPS].copyFrom(town);
            if (stepCount < MOST_STEPS) {
                stepCount++;
            } else {
                eldestStep = (eldestStep + 1) % MOST_STEPS;
            }
        }

        int takeStepBack() {
            if (stepCount == 0) {
                return NONE;
            }
            stepCount--;
            town.returnTo(steps[(eldestStep + stepCount) % MOST_STEPS]);
            return stepCount;
        }

        int knowingNext(int knowing) {
            int next = knowing;
            for (int i = 0; i < gossipCount; i++) {
                if ((knowing >> gossipFrom[i] & 1) == 1) {
                    next |= 1 << gossipTo[i];
                }
            }
            return next;
        }
    }

    /** A text that was read: its laws as code, operators behind what they join, and its clauses. */
    private static final class Text {
        private static final int LAWS = 3;
        private static final int CLAUSE_WIDTH = 4;

        final int[] code = new int[MOST_BYTES];
        int size;
        final int[] lawFrom = new int[LAWS];
        final int[] lawTo = new int[LAWS];
        final int[] rows = new int[MOST_CLAUSES * CLAUSE_WIDTH];
        int clauses;

        void clear() {
            size = 0;
            clauses = 0;
            for (int i = 0; i < LAWS; i++) {
                lawFrom[i] = 0;
                lawTo[i] = 0;
            }
        }

        void copyFrom(Text other) {
            System.arraycopy(other.code, 0, code, 0, MOST_BYTES);
            size = other.size;
            System.arraycopy(other.lawFrom, 0, lawFrom, 0, LAWS);
            System.arraycopy(other.lawTo, 0, lawTo, 0, LAWS);
            System.arraycopy(other.rows, 0, rows, 0, MOST_CLAUSES * CLAUSE_WIDTH);
            clauses = other.clauses;
        }

        boolean has(int law) {
            return lawTo[law - EARNS] > lawFrom[law - EARNS];
        }

        void append(int word) {
            if (size < MOST_BYTES) {
                code[size] = word;
                size++;
            }
        }

        void appendClause(int kind, int a, int b, int c) {
            if (clauses < MOST_CLAUSES) {
                int row = clauses * CLAUSE_WIDTH;
                rows[row] = kind;
                rows[row + 1] = a;
                rows[row + 2] = b;
                rows[row + 3] = c;
                clauses++;
            }
        }

        int kindOf(int clause) {
            return isWithin(clause, 0, MOST_CLAUSES - 1) ? rows[clause * CLAUSE_WIDTH] : END;
        }

        int numberOf(int clause, int which) {
            if (!isWithin(clause, 0, MOST_CLAUSES - 1) || !isWithin(which, 0, CLAUSE_WIDTH - 2)) {
                return NONE;
            }
            return rows[clause * CLAUSE_WIDTH + 1 + which];
        }
    }

    /** Reads the tape into a draft, up to its first fault; behind that no token stands any more. */
    private static final class Reader {
        final Text draft = new Text();
        int fault;
        int place = NONE;
        private final int[] kinds = new int[MOST_BYTES + 1];
        private final int[] places = new int[MOST_BYTES + 1];
        private final int[] values = new int[MOST_BYTES + 1];
        private int tokens;
        private int at;
        private boolean inLets;

        void read(int[] tape, int length) {
            fault = NO_FAULT;
            place = NONE;
            at = 0;
            draft.clear();
            splitUp(tape, Math.min(length, tape.length));
            for (int i = 0; i <= MOST_CLAUSES && kind() != END && fault == NO_FAULT; i++) {
                int first = kind();
                if (canStart(first)) {
                    advance();
                    if (isLaw(first)) {
                        readLaw(first);
                    } else {
                        readDeed(first);
                    }
                    expect(SEMICOLON);
                }
            }
        }

        private void splitUp(int[] tape, int length) {
            tokens = 0;
            int from = 0;
            while (from < length && tokens < MOST_BYTES) {
                int sign = tape[from];
                if (sign == ' ' || sign == '\n') {
                    from++;
                    continue;
                }
                int to = tokenEnd(tape, from, length);
                places[tokens] = from;
                kinds[tokens] = kindOf(tape, from, to);
                values[tokens] = kinds[tokens] == NUMBER ? valueOf(tape, from, to) : 0;
                tokens++;
                from = to;
            }
            kinds[tokens] = END;
            places[tokens] = length;
        }

        private static int tokenEnd(int[] tape, int from, int length) {
            int to = from + 1;
            if (isLetter(tape[from])) {
                while (to < length && isLetter(tape[to])) {
                    to++;
                }
            } else if (isDigit(tape[from])) {
                while (to < length && isDigit(tape[to])) {
                    to++;
                }
            } else if ((tape[from] == '<' || tape[from] == '>') && to < length && tape[to] == '=') {
                to++;
            }
            return to;
        }

        private static boolean isLetter(int sign) {
            return sign >= 'a' && sign <= 'z' || sign >= 'A' && sign <= 'Z';
        }

        private static boolean isDigit(int sign) {
            return sign >= '0' && sign <= '9';
        }

        private static int kindOf(int[] tape, int from, int to) {
            if (isLetter(tape[from])) {
                return kindOfWord(tape, from, to);
            }
            if (isDigit(tape[from])) {
                return NUMBER;
            }
            if (to - from == 2) {
                return tape[from] == '<' ? AT_MOST : AT_LEAST;
            }
            int sign = SIGNS.indexOf((char) tape[from]);
            return sign < 0 ? NOTHING : LESS + sign;
        }

        private static int kindOfWord(int[] tape, int from, int to) {
            for (int word = 0; word < HOW_MANY_WORDS; word++) {
                if (isWord(word, tape, from, to)) {
                    return DAY + word;
                }
            }
            return NOTHING;
        }

        private static boolean isWord(int word, int[] tape, int from, int to) {
            int length = to - from;
            int start = word * WORD_WIDTH;
            if (length >= WORD_WIDTH || WORDS.charAt(start + length) != ' ') {
                return false;
            }
            for (int i = 0; i < length; i++) {
                if (WORDS.charAt(start + i) != tape[from + i]) {
                    return false;
                }
            }
            return true;
        }

        private static int valueOf(int[] tape, int from, int to) {
            int value = 0;
            for (int i = from; i < to; i++) {
                value = Math.min(MOST_NUMBER + 1, value * 10 + tape[i] - '0');
            }
            return value;
        }

        private int kind() {
            return fault != NO_FAULT ? NOTHING : kinds[at];
        }

        private void advance() {
            if (at < tokens) {
                at++;
            }
        }

        private void fail(int what) {
            if (fault == NO_FAULT) {
                fault = what;
                place = places[at];
            }
        }

        private void expect(int kind) {
            if (kind() == kind) {
                advance();
            } else {
                fail(MISPLACED);
            }
        }

        private int expectNumber(int least, int most) {
            if (kind() != NUMBER) {
                fail(MISPLACED);
                return NONE;
            }
            int value = values[at];
            if (!isWithin(value, least, most)) {
                fail(OUT_OF_RANGE);
            }
            advance();
            return value;
        }

        private static boolean isLaw(int first) {
            return isWithin(first, EARNS, LETS);
        }

        private boolean canStart(int first) {
            if (!isLaw(first) && !isWithin(first, KNOCK, FORGET) && first != HOUSE && first != DAY) {
                fail(MISPLACED);
            } else if (isLaw(first) && draft.has(first)) {
                fail(LAW_TWICE);
            } else if (draft.clauses >= MOST_CLAUSES) {
                fail(TOO_MANY_CLAUSES);
            }
            return fault == NO_FAULT;
        }

        private void readDeed(int first) {
            int a = NONE;
            int b = NONE;
            int c = NONE;
            if (first == DAY) {
                a = expectNumber(1, MOST_PASSED);
            } else if (first == HOUSE) {
                a = expectNumber(0, DATES - 1);
                expect(PURSE);
                b = expectNumber(0, MOST_PURSE);
                expect(FRIENDS);
                c = expectNumber(0, MOST_FRIENDS);
            } else {
                a = expectNumber(0, first == FORGET ? DATES - 1 : MOST_HOUSES - 1);
                if (first == MARRY || first == FORGET) {
                    expect(first == MARRY ? TO : OF);
                    b = expectNumber(0, MOST_HOUSES - 1);
                }
            }
            draft.appendClause(first, a, b, c);
        }

        private void readLaw(int first) {
            int law = first - EARNS;
            inLets = first == LETS;
            draft.lawFrom[law] = draft.size;
            if (inLets) {
                readEither();
            } else {
                readSum(0);
            }
            draft.lawTo[law] = draft.size;
            draft.appendClause(first, NONE, NONE, NONE);
        }

        private void readEither() {
            boolean isFirst = true;
            for (int i = 0; i < MOST_BYTES && (isFirst || kind() == OR); i++) {
                if (!isFirst) {
                    advance();
                }
                readAsk();
                for (int k = 0; k < MOST_BYTES && kind() == AND; k++) {
                    advance();
                    readAsk();
                    emit(AND);
                }
                if (!isFirst) {
                    emit(OR);
                }
                isFirst = false;
            }
        }

        private void readAsk() {
            int nots = 0;
            while (nots <= MOST_OPEN && kind() == NOT && canEnter(nots)) {
                nots++;
            }
            readSum(nots);
            int relation = kind();
            if (!isRelation(relation)) {
                fail(MISPLACED);
            }
            advance();
            readSum(nots);
            emit(relation);
            for (int i = 0; i < nots; i++) {
                emit(NOT);
            }
        }

        private static boolean isRelation(int kind) {
            return isWithin(kind, LESS, UNLIKE) || isWithin(kind, AT_MOST, AT_LEAST) || kind == DIVIDES;
        }

        private void readSum(int open) {
            readProduct(open);
            for (int i = 0; i < MOST_BYTES && (kind() == PLUS || kind() == MINUS); i++) {
                int joint = kind();
                advance();
                readProduct(open);
                emit(joint);
            }
        }

        private void readProduct(int open) {
            readOne(open);
            for (int i = 0; i < MOST_BYTES && (kind() == TIMES || kind() == OVER); i++) {
                int joint = kind();
                advance();
                readOne(open);
                emit(joint);
            }
        }

        private void readOne(int open) {
            int kind = kind();
            if (kind == NUMBER) {
                draft.append(expectNumber(0, MOST_NUMBER));
            } else if (isWithin(kind, DAY, BESIDE)) {
                readName(kind);
            } else if (kind != OPENING && kind != MINUS && kind != DIGIT) {
                fail(MISPLACED);
            } else if (canEnter(open)) {
                readEntered(kind, open + 1);
            }
        }

        private void readEntered(int kind, int open) {
            if (kind == OPENING) {
                readSum(open);
                expect(CLOSING);
            } else if (kind == MINUS) {
                readOne(open);
                emit(NEGATED);
            } else {
                readOne(open);
                expect(OF);
                readOne(open);
                emit(DIGIT);
            }
        }

        private void readName(int kind) {
            if (kind == BESIDE && inLets) {
                fail(NAME_ELSEWHERE);
            }
            draft.append(CODE_OF_KINDS + kind);
            advance();
        }

        private boolean canEnter(int open) {
            if (open >= MOST_OPEN) {
                fail(TOO_DEEP);
                return false;
            }
            advance();
            return true;
        }

        private void emit(int kind) {
            draft.append(CODE_OF_KINDS + kind);
        }
    }

    /** What a text's laws (or, without, the usual ones) say of a house on the day looked at. */
    private static final class Laws {
        private final int[] names = new int[BESIDE - DAY + 1];
        private final int[] stack = new int[MOST_BYTES];
        private int open;

        void lookAt(Town town, int day) {
            int date = day % DATES;
            open = town.openOn(date);
            names[0] = day;
            names[DATE - DAY] = date;
            names[OPEN - DAY] = Integer.bitCount(open);
        }

        boolean isOpen(int house) {
            return (open >> house & 1) == 1;
        }

        int openBeside(int house) {
            return (house > 0 && isOpen(house - 1) ? 1 : 0) + (isOpen(house + 1) ? 1 : 0);
        }

        int earnedBy(Text rule, Town town, int house) {
            if (!rule.has(EARNS)) {
                return 1 + openBeside(house);
            }
            return Math.max(0, Math.min(MOST_LAW, valueOf(rule, EARNS, town, house)));
        }

        int lostBy(Text rule, Town town, int house) {
            if (!rule.has(LOSES)) {
                return 2;
            }
            return Math.max(0, Math.min(MOST_LAW, valueOf(rule, LOSES, town, house)));
        }

        boolean letsIn(Text rule, Town town, int house) {
            if (!rule.has(LETS)) {
                return town.told(house) && town.friends[house] < 50;
            }
            return valueOf(rule, LETS, town, house) != 0;
        }

        void passDay(Text rule, Town town) {
            lookAt(town, town.day);
            for (int h = 0; h < town.houses; h++) {
                if (isOpen(h)) {
                    int more = town.purse[h] + earnedBy(rule, town, h);
                    town.purse[h] = Math.min(MOST_PURSE, more);
                } else if (town.lives(h)) {
                    int less = town.purse[h] - lostBy(rule, town, h);
                    town.purse[h] = Math.max(0, less);
                }
            }
            town.day++;
        }

        private int valueOf(Text rule, int law, Town town, int house) {
            if (!town.told(house)) {
                return 0;
            }
            names[HOUSE - DAY] = house;
            names[PURSE - DAY] = town.purse[house];
            names[FRIENDS - DAY] = town.friends[house];
            names[DAYS - DAY] = Integer.bitCount(town.shut[house]);
            names[BESIDE - DAY] = openBeside(house);
            int to = Math.min(MOST_BYTES, rule.lawTo[law - EARNS]);
            int height = 0;
            for (int i = rule.lawFrom[law - EARNS]; i < to && height < MOST_BYTES; i++) {
                int kind = rule.code[i] - CODE_OF_KINDS;
                if (kind < 0) {
                    stack[height] = rule.code[i];
                    height++;
                } else if (isWithin(kind, DAY, BESIDE)) {
                    stack[height] = names[kind - DAY];
                    height++;
                } else if (kind == NEGATED && height > 0) {
                    stack[height - 1] = -stack[height - 1];
                } else if (kind == NOT && height > 0) {
                    stack[height - 1] = 1 - stack[height - 1];
                } else if (height > 1) {
                    height--;
                    stack[height - 1] = joined(kind, stack[height - 1], stack[height]);
                }
            }
            return stack[0];
        }

        private static int joined(int kind, int a, int b) {
            switch (kind) {
                case PLUS:
                    return limited((long) a + b);
                case MINUS:
                    return limited((long) a - b);
                case TIMES:
                    return limited((long) a * b);
                case OVER:
                    return b == 0 ? 0 : a / b;
                case DIGIT:
                    return digitAt(a, b);
                case AND:
                    return a & b;
                case OR:
                    return a | b;
                default:
                    return isSo(kind, a, b) ? 1 : 0;
            }
        }

        private static boolean isSo(int relation, int a, int b) {
            switch (relation) {
                case LESS:
                    return a < b;
                case MORE:
                    return a > b;
                case AT_MOST:
                    return a <= b;
                case AT_LEAST:
                    return a >= b;
                case LIKE:
                    return a == b;
                case UNLIKE:
                    return a != b;
                default:
                    return a == 0 ? b == 0 : b % a == 0;
            }
        }

        private static int limited(long value) {
            return (int) Math.max(-MOST_VALUE, Math.min(MOST_VALUE, value));
        }

        private static int digitAt(int where, int value) {
            if (where < 0 || where > 9) {
                return 0;
            }
            int rest = Math.abs(value);
            for (int i = 0; i < where; i++) {
                rest /= 10;
            }
            return rest % 10;
        }
    }

    /** The sets of m dates that a house may have: all of some dates, the rest out of the free ones. */
    private static final class Guess {
        int count;
        private int within;
        private int without;
        private int free;
        private int wanted;

        void lookAt(World world, int house, int m) {
            within = 0;
            without = 0;
            for (int i = 0; i < world.town.written; i++) {
                if (world.town.houseOfKnock(i) == house) {
                    note(world.town.dayOfKnock(i) % DATES, world.town.wasShut(i));
                }
            }
            for (int i = 0; i < world.seenCount; i++) {
                if (world.seenHouse[i] == house) {
                    note(world.seenDate[i], world.seenShut[i] == 1);
                }
            }
            free = DATES - Integer.bitCount(within | without);
            wanted = m - Integer.bitCount(within);
            count = (within & without) != 0 ? 0 : choices(free, wanted);
        }

        private void note(int date, boolean shut) {
            if (shut) {
                within |= 1 << date;
            } else {
                without |= 1 << date;
            }
        }

        // More than three are never wanted, as m is 3 at most.
        private static int choices(int from, int many) {
            switch (many) {
                case 0:
                    return 1;
                case 1:
                    return from;
                case 2:
                    return from * (from - 1) / 2;
                case 3:
                    return from * (from - 1) * (from - 2) / 6;
                default:
                    return 0;
            }
        }

        int countWith(int date) {
            if (count == 0 || (without >> date & 1) == 1) {
                return 0;
            }
            if ((within >> date & 1) == 1) {
                return count;
            }
            return wanted == 0 ? 0 : choices(free - 1, wanted - 1);
        }

        int offHalf(int date) {
            return Math.abs(2 * countWith(date) - count);
        }

        int inAll() {
            int bits = 0;
            for (int date = 0; date < DATES; date++) {
                if (count > 0 && countWith(date) == count) {
                    bits |= 1 << date;
                }
            }
            return bits;
        }
    }

    /** The earliest plan of appointments, and of like ones the one with the lowest houses first. */
    private static final class Diary {
        final int[] dayOf = new int[MOST_HOUSES];
        int length;

        // A house is shut on three dates at most, so a year is far more than any plan needs.
        void plan(Town town, int set) {
            length = Integer.bitCount(set);
            while (length < DATES && !canPlace(town, set, 0, length, dayOf)) {
                length++;
            }
        }

        private static boolean canPlace(Town town, int left, int day, int length, int[] dayOf) {
            if (left == 0) {
                return true;
            }
            if (Integer.bitCount(left) > length - day) {
                return false;
            }
            int date = (town.day + day) % DATES;
            for (int h = 0; h < MOST_HOUSES; h++) {
                if ((left >> h & 1) == 1 && !town.isShut(h, date)
                        && canPlace(town, left & ~(1 << h), day + 1, length, dayOf)) {
                    dayOf[h] = day;
                    return true;
                }
            }
            return canPlace(town, left, day + 1, length, dayOf);
        }
    }

    /**
     * The twos with most dates together. The lowest house is tried alone first, then with the
     * lowest other one: of like ones the first that is come to is the one that is due.
     */
    private static final class Couples {
        int most;
        final int[] best = new int[MOST_HOUSES];
        private final int[] with = new int[MOST_HOUSES];

        void choose(Town town) {
            most = NONE;
            for (int h = 0; h < MOST_HOUSES; h++) {
                with[h] = NONE;
            }
            pairFrom(this, town, 0, 0);
        }

        private static void pairFrom(Couples made, Town town, int house, int dates) {
            if (house >= town.houses || house >= MOST_HOUSES) {
                made.keepBetter(dates);
                return;
            }
            pairFrom(made, town, house + 1, dates);
            if (made.with[house] != NONE || !town.lives(house)) {
                return;
            }
            for (int other = house + 1; other < town.houses && other < MOST_HOUSES; other++) {
                if (made.with[other] == NONE && town.lives(other)) {
                    int together = Integer.bitCount(town.shut[house] & town.shut[other]);
                    made.with[house] = other;
                    made.with[other] = house;
                    pairFrom(made, town, house + 1, dates + together);
                    made.with[house] = NONE;
                    made.with[other] = NONE;
                }
            }
        }

        private void keepBetter(int dates) {
            if (dates > most) {
                most = dates;
                System.arraycopy(with, 0, best, 0, MOST_HOUSES);
            }
        }
    }
}
