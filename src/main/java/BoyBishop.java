import java.util.Arrays;

/** A child for bishop: the promises are those of the document, the words those of its terms. */
public final class BoyBishop {
    public static final int NONE = -1;

    /** The answer for what is not there, where NONE already means nobody. */
    private static final int ABSENT = -2;
    private static final int MOST_BOYS = 6;
    private static final int MOST_CANONS = 4;
    private static final int MOST_FARMS = 6;
    private static final int MOST_RULES = 6;
    private static final int MOST_IMAGES = 4;
    private static final int MOST_NOTES = 10;
    private static final int MOST_SHARE = 20;
    private static final int MOST_KEPT = 99999;
    private static final int LAST_DAY_BY_HAND = 999;
    private static final int LAST_DAY_ASKED = 60;
    private static final int DEAD = 100;
    private static final int CHURCH = 0;

    private static final int CANNOT_STAND = 0;
    private static final int WRONG_NUMBER = 1;
    private static final int TOO_DEEP = 2;
    private static final int TOO_LONG = 3;
    private static final int TOO_MANY = 4;

    private final Tape tape;
    private final ChoirReader choirReader;
    private final RuleReader ruleReader;
    private final Rule[] rules;
    private int ruleCount;
    private final Whole now;
    private final Whole[] images;
    private final Past past;
    private final Poll poll;
    private final Days days;
    private final Chronicle chronicle;
    /** What is asked happens to this one, so that nothing of it stays. */
    private final Standing trial;

    public BoyBishop() {
        tape = new Tape();
        choirReader = new ChoirReader();
        ruleReader = new RuleReader();
        rules = new Rule[MOST_RULES];
        for (int i = 0; i < MOST_RULES; i++) {
            rules[i] = new Rule();
        }
        now = new Whole(new Choir());
        images = new Whole[MOST_IMAGES];
        for (int i = 0; i < MOST_IMAGES; i++) {
            images[i] = new Whole(now.choir);
        }
        past = new Past();
        poll = new Poll();
        days = new Days(poll);
        chronicle = new Chronicle(days);
        trial = new Standing();
    }

    public int feed(int a, int b, int c, int d, int e) {
        if (!tape.hasRoom(20)) {
            return NONE;
        }
        tape.add(a);
        tape.add(b);
        tape.add(c);
        tape.add(d);
        tape.add(e);
        return tape.length;
    }

    public int end(int n) {
        if (n < 0 || n > tape.length) {
            return NONE;
        }
        tape.length = n;
        return n;
    }

    public int choir() {
        Choir told = choirReader.read(tape);
        if (told == null) {
            return -2 - tape.fault;
        }
        tape.length = 0;
        now.choir = told;
        now.standing.begin(told);
        now.notes = 0;
        past.forget();
        return told.boys;
    }

    public int rule() {
        if (ruleCount >= MOST_RULES) {
            return NONE;
        }
        if (!ruleReader.read(tape, rules[ruleCount])) {
            return -2 - tape.fault;
        }
        tape.length = 0;
        ruleCount++;
        return ruleCount - 1;
    }

    public int force(int rule) {
        if (rule < NONE || rule >= ruleCount) {
            return ABSENT;
        }
        int was = now.force;
        now.force = rule;
        return was;
    }

    public int boy(int boy, int what) {
        if (!isBoy(boy)) {
            return NONE;
        }
        switch (what) {
            case 0: return now.standing.voice[boy];
            case 1: return now.standing.share[boy];
            case 2: return now.choir.fade[boy];
            case 3: return now.standing.was[boy];
            default: return NONE;
        }
    }

    public int likes(int boy, int other) {
        if (!isBoy(boy) || !isBoy(other)) {
            return NONE;
        }
        return now.choir.likes[boy * MOST_BOYS + other];
    }

    public int canon(int canon, int what) {
        if (!isCanon(canon)) {
            return ABSENT;
        }
        switch (what) {
            case 0: return now.standing.age[canon];
            case 1: return now.choir.prebend[canon];
            case 2: return now.standing.free >> canon & 1;
            case 3: return now.standing.given[canon];
            default: return ABSENT;
        }
    }

    public int farm(int farm, int what) {
        if (!isFarm(farm)) {
            return ABSENT;
        }
        switch (what) {
            case 0: return now.choir.gift[farm];
            case 1: return now.choir.more[farm];
            case 2: return now.standing.laid[farm];
            case 3: return hoursFromChurch(farm);
            default: return ABSENT;
        }
    }

    private int hoursFromChurch(int farm) {
        int hours = now.choir.hoursBetween(CHURCH, farm + 1);
        return hours < Choir.NO_WAY ? hours : NONE;
    }

    public int day() {
        if (!now.choir.told || now.standing.day >= LAST_DAY_BY_HAND) {
            return ABSENT;
        }
        past.keep(now.standing);
        days.pass(now.choir, now.standing, ruleInForce());
        return now.standing.bishop;
    }

    public int visit(int farm) {
        if (!isFarm(farm) || !canBeVisited(farm)) {
            return NONE;
        }
        past.keep(now.standing);
        return now.standing.fetch(farm);
    }

    private boolean canBeVisited(int farm) {
        Standing standing = now.standing;
        if (!isBoy(standing.bishop) || standing.out) {
            return false;
        }
        return 2 * now.choir.hoursBetween(CHURCH, farm + 1) <= now.choir.hoursOn(standing.day);
    }

    public int promise(int boy, int share) {
        if (!isBoy(boy) || share < 0 || share > MOST_SHARE) {
            return NONE;
        }
        int was = now.standing.share[boy];
        // the share that he has is not another one
        if (share == was) {
            return NONE;
        }
        past.keep(now.standing);
        now.standing.share[boy] = share;
        return was;
    }

    public int give(int from, int canon) {
        Standing standing = now.standing;
        if (!isCanon(from) || (standing.free >> from & 1) == 0 || !isAlive(canon) || standing.bishop == NONE) {
            return NONE;
        }
        past.keep(standing);
        standing.free &= ~(1 << from);
        standing.given[canon] = from;
        return now.choir.prebend[from];
    }

    public int breaks(int boy) {
        if (!isSinging(boy)) {
            return NONE;
        }
        past.keep(now.standing);
        int had = now.standing.voice[boy];
        now.standing.voice[boy] = 0;
        return had;
    }

    public int undo() {
        return past.takeBack(now.standing) ? past.kept : NONE;
    }

    public int ahead(int number, int n, int what) {
        if (!now.choir.told || n < 0 || n > LAST_DAY_ASKED || !canBeAskedAhead(number, what)) {
            return ABSENT;
        }
        trial.copyFrom(now.standing);
        for (int i = 0; i < n; i++) {
            days.pass(now.choir, trial, ruleInForce());
        }
        switch (what) {
            case 0: return trial.bishop;
            case 1: return trial.voice[number];
            default: return trial.laid[number];
        }
    }

    private boolean canBeAskedAhead(int number, int what) {
        return what == 0 || what == 1 && isBoy(number) || what == 2 && isFarm(number);
    }

    public int votes(int boy, int what) {
        if (!now.choir.told || what < 0 || what > 2 || what != 2 && !isBoy(boy)) {
            return ABSENT;
        }
        poll.hold(now.choir, now.standing, ruleInForce());
        switch (what) {
            case 0: return poll.choice[boy];
            case 1: return poll.tally[boy];
            default: return poll.chosen;
        }
    }

    public int method(int method) {
        if (!now.choir.told || method < 0 || method > 2) {
            return ABSENT;
        }
        poll.hold(now.choir, now.standing, ruleInForce());
        switch (method) {
            case 0: return poll.mostPoints();
            case 1: return poll.aheadOfEach();
            default: return poll.lastLeft();
        }
    }

    public int least(int boy) {
        if (!isSinging(boy)) {
            return NONE;
        }
        trial.copyFrom(now.standing);
        for (int share = 0; share <= MOST_SHARE; share++) {
            trial.share[boy] = share;
            poll.hold(now.choir, trial, ruleInForce());
            if (poll.chosen == boy) {
                return share;
            }
        }
        return ABSENT;
    }

    public int winOver(int boy, int what) {
        if (!isSinging(boy) || what < 0 || what > 1) {
            return NONE;
        }
        poll.hold(now.choir, now.standing, ruleInForce());
        int set = poll.fewestToWinOver(boy);
        return what == 0 ? Integer.bitCount(set) : set;
    }

    public int rests(int one, int other, int what) {
        if (!isSinging(one) || !isSinging(other) || one == other || what < 0 || what > 2) {
            return NONE;
        }
        trial.copyFrom(now.standing);
        poll.tryPromises(now.choir, trial, ruleInForce(), one, other);
        if (what == 0) {
            return poll.countRests(one, other);
        }
        int first = poll.firstRest(one, other);
        if (first == NONE) {
            return ABSENT;
        }
        return Poll.SHARE_STEP * (what == 1 ? first / Poll.SHARES : first % Poll.SHARES);
    }

    public int round(int what) {
        if (!now.choir.told || what < 0 || what > 2) {
            return NONE;
        }
        int set = bestRound();
        switch (what) {
            case 0: return now.standing.laidBy(set);
            case 1: return set;
            default: return now.choir.roundHours(CHURCH, set);
        }
    }

    private int bestRound() {
        int most = 0;
        int fewest = 0;
        int best = 0;
        int hours = now.choir.hoursOn(now.standing.day);
        for (int set = 1; set < 1 << now.choir.farms; set++) {
            int laid = now.standing.laidBy(set);
            if (laid < most) {
                continue;
            }
            int needed = now.choir.roundHours(CHURCH, set);
            if (needed <= hours && (laid > most || needed < fewest)) {
                most = laid;
                fewest = needed;
                best = set;
            }
        }
        return best;
    }

    public int falls(int canon, int n) {
        if (!isAlive(canon) || n < 1 || n > LAST_DAY_ASKED) {
            return NONE;
        }
        int last = now.standing.deathDay(canon);
        return last < now.standing.day + n ? last : ABSENT;
    }

    public int likely(int canon, int n) {
        if (!isAlive(canon) || n < 1 || n > LAST_DAY_ASKED) {
            return NONE;
        }
        int left = 10000;
        for (int i = 0; i < n; i++) {
            left -= Standing.partUpwards(left, now.standing.age[canon], 1000);
        }
        return 10000 - left;
    }

    public int best(int what) {
        if (!now.choir.told || what < 0 || what > 1) {
            return NONE;
        }
        int youngest = youngestCanon();
        if (youngest == NONE) {
            return ABSENT;
        }
        return what == 0 ? youngest : now.standing.deathDay(youngest) + 1 - now.standing.day;
    }

    private int youngestCanon() {
        int youngest = NONE;
        int age = DEAD;
        for (int canon = 0; canon < now.choir.canons; canon++) {
            if (now.standing.age[canon] < age) {
                youngest = canon;
                age = now.standing.age[canon];
            }
        }
        return youngest;
    }

    public int note(int n, int boy) {
        // only a note that is to be told needs a choir: that there are none may be said without
        if (n == NONE) {
            now.notes = 0;
            return 0;
        }
        if (!now.choir.told || n < 0 || n > LAST_DAY_ASKED || boy != NONE && !isBoy(boy) || now.notes >= MOST_NOTES) {
            return ABSENT;
        }
        now.noteDay[now.notes] = n;
        now.noteBishop[now.notes] = boy;
        now.notes++;
        return now.notes;
    }

    public int ruled(int what) {
        if (!now.choir.told || what < 0 || what > 1) {
            return -3;
        }
        chronicle.study(now, rules, ruleCount);
        return what == 0 ? Integer.bitCount(chronicle.fitting) : chronicle.firstFitting();
    }

    public int look(int what) {
        if (!now.choir.told || what < 0 || what > 1) {
            return NONE;
        }
        chronicle.study(now, rules, ruleCount);
        if (chronicle.fitting == 0) {
            return ABSENT;
        }
        int best = chronicle.bestDay();
        return what == 0 ? best : chronicle.mostAlike(best);
    }

    public int seed(int x) {
        if (x < 0) {
            return NONE;
        }
        int was = now.x;
        now.x = x;
        return was;
    }

    public int winters(int m, int n, int p, int what) {
        if (!now.choir.told || m < 1 || m > 10 || n < 1 || n > LAST_DAY_ASKED) {
            return NONE;
        }
        if (p < 0 || p > 100 || what < 0 || what > 1) {
            return NONE;
        }
        days.beginWinters(now.x);
        for (int i = 0; i < m; i++) {
            trial.copyFrom(now.standing);
            days.passWinter(now.choir, trial, ruleInForce(), n, p);
        }
        return what == 0 ? days.chosen : days.broken;
    }

    public int count(int what) {
        switch (what) {
            case 0: return now.choir.reign;
            case 1: return now.choir.hours;
            case 2: return now.choir.boys;
            case 3: return now.choir.canons;
            case 4: return now.choir.farms;
            case 5: return ruleCount;
            case 6: return now.force;
            case 16: return now.notes;
            case 17: return past.kept;
            case 18: return now.x;
            case 19: return tape.length;
            default: return countOfStanding(what);
        }
    }

    private int countOfStanding(int what) {
        Standing standing = now.standing;
        switch (what) {
            case 7: return standing.day;
            case 8: return standing.bishop;
            case 9: return standing.firstDay;
            case 10: return standing.chest;
            case 11: return standing.wentToBoys;
            case 12: return standing.out ? 1 : 0;
            case 13: return now.choir.snowsOn(standing.day) ? 1 : 0;
            case 14: return standing.free;
            case 15: return standing.brokenVoices(now.choir.boys);
            default: return NONE;
        }
    }

    public int image(int k) {
        if (k < 0 || k >= MOST_IMAGES) {
            return NONE;
        }
        images[k].copyFrom(now);
        images[k].made = true;
        return now.standing.day;
    }

    public int back(int k) {
        if (k < 0 || k >= MOST_IMAGES || !images[k].made) {
            return NONE;
        }
        now.copyFrom(images[k]);
        past.forget();
        return now.standing.day;
    }

    private boolean isBoy(int boy) {
        return boy >= 0 && boy < now.choir.boys;
    }

    private boolean isSinging(int boy) {
        return isBoy(boy) && now.standing.voice[boy] > 0;
    }

    private boolean isCanon(int canon) {
        return canon >= 0 && canon < now.choir.canons;
    }

    private boolean isAlive(int canon) {
        return isCanon(canon) && now.standing.age[canon] < DEAD;
    }

    private boolean isFarm(int farm) {
        return farm >= 0 && farm < now.choir.farms;
    }

    private Rule ruleInForce() {
        return now.force >= 0 && now.force < ruleCount ? rules[now.force] : null;
    }

    /** The bytes that were fed, and how far they have been read. */
    private static final class Tape {
        static final int LONGEST = 400;
        private static final int BLANK = 32;
        private static final int MOST_DIGITS = 5;

        private final byte[] bytes;
        int length;
        /** While a text is read, blanks never stand here: they are skipped behind what is taken. */
        int place;
        /** 0 as long as nothing is wrong; behind a fault nothing more is found. */
        int fault;

        Tape() {
            bytes = new byte[LONGEST];
        }

        boolean hasRoom(int more) {
            return length + more <= LONGEST;
        }

        void add(int four) {
            for (int shift = 24; shift >= 0 && length < LONGEST; shift -= 8) {
                bytes[length] = (byte) (four >> shift);
                length++;
            }
        }

        void startReading() {
            fault = 0;
            moveTo(0);
        }

        private void moveTo(int to) {
            place = to;
            while (place < length && bytes[place] == BLANK) {
                place++;
            }
        }

        boolean atEnd() {
            return place >= length;
        }

        /** A text is read from left to right, so the fault that is found first is the first one. */
        void fail(int where, int kind) {
            if (fault == 0) {
                fault = 1 + 8 * where + kind;
            }
        }

        private boolean stands(int at, char wanted) {
            return fault == 0 && at < length && bytes[at] == wanted;
        }

        boolean takeSign(char wanted) {
            boolean found = stands(place, wanted);
            if (found) {
                moveTo(place + 1);
            }
            return found;
        }

        boolean takeTwoSigns(char first, char second) {
            boolean found = stands(place, first) && stands(place + 1, second);
            if (found) {
                moveTo(place + 2);
            }
            return found;
        }

        boolean isDigitAt(int at) {
            return fault == 0 && at < length && bytes[at] >= '0' && bytes[at] <= '9';
        }

        /** Which of the words, each with a blank behind it, stands here; NONE, and it is not taken, if none does. */
        int takeWord(String words) {
            int to = place;
            while (to < length && bytes[to] >= 'a' && bytes[to] <= 'z') {
                to++;
            }
            int number = 0;
            int start = 0;
            for (int i = 0; i < words.length() && fault == 0; i++) {
                if (words.charAt(i) != BLANK) {
                    continue;
                }
                if (i - start == to - place && isWord(words, start, i)) {
                    moveTo(to);
                    return number;
                }
                number++;
                start = i + 1;
            }
            return NONE;
        }

        private boolean isWord(String words, int from, int to) {
            for (int i = from; i < to; i++) {
                int at = place + i - from;
                if (at >= length || bytes[at] != words.charAt(i)) {
                    return false;
                }
            }
            return true;
        }

        /** The number that stands here; the least that it may be, if there is a fault. */
        int takeNumber(int least, int most) {
            int from = place;
            int to = from;
            int number = 0;
            while (to < length && isDigitAt(to)) {
                // what is behind the fifth digit is a fault whatever it is, and must not go round
                if (to - from < MOST_DIGITS) {
                    number = number * 10 + bytes[to] - '0';
                }
                to++;
            }
            if (to == from) {
                fail(from, CANNOT_STAND);
            } else if (to - from > MOST_DIGITS || number < least || number > most) {
                fail(from, WRONG_NUMBER);
            }
            moveTo(to);
            return fault == 0 ? number : least;
        }
    }

    /** What the text told; it never changes then, so images may share it. */
    private static final class Choir {
        static final int NO_WAY = 1000000;
        private static final int PLACES = MOST_FARMS + 1;

        boolean told;
        int reign;
        int hours;
        int boys;
        int canons;
        int farms;
        final int[] voice;
        final int[] share;
        final int[] fade;
        final int[] likes;
        final int[] age;
        final int[] prebend;
        final int[] gift;
        final int[] more;
        private final int[] ways;
        private final boolean[] snow;

        Choir() {
            voice = new int[MOST_BOYS];
            share = new int[MOST_BOYS];
            fade = new int[MOST_BOYS];
            likes = new int[MOST_BOYS * MOST_BOYS];
            age = new int[MOST_CANONS];
            prebend = new int[MOST_CANONS];
            gift = new int[MOST_FARMS];
            more = new int[MOST_FARMS];
            ways = new int[PLACES * PLACES];
            snow = new boolean[LAST_DAY_ASKED + 1];
        }

        /** What is not told anew by the next text must not be left from the last one. */
        void clear() {
            boys = 0;
            canons = 0;
            farms = 0;
            Arrays.fill(likes, 0);
            Arrays.fill(ways, NO_WAY);
            for (int i = 0; i < snow.length; i++) {
                snow[i] = false;
            }
        }

        void setWay(int one, int other, int hoursOfWay) {
            ways[one * PLACES + other] = hoursOfWay;
            ways[other * PLACES + one] = hoursOfWay;
        }

        void setSnow(int day) {
            if (day >= 0 && day < snow.length) {
                snow[day] = true;
            }
        }

        void shortenWays() {
            for (int place = 0; place < PLACES; place++) {
                ways[place * PLACES + place] = 0;
            }
            for (int by = 0; by < PLACES; by++) {
                for (int from = 0; from < PLACES; from++) {
                    for (int to = 0; to < PLACES; to++) {
                        int around = ways[from * PLACES + by] + ways[by * PLACES + to];
                        ways[from * PLACES + to] = Math.min(ways[from * PLACES + to], around);
                    }
                }
            }
        }

        int hoursBetween(int from, int to) {
            return ways[from * PLACES + to];
        }

        boolean snowsOn(int day) {
            return day >= 0 && day < snow.length && snow[day];
        }

        /** Ways twice as long are the same as half the hours, downwards. */
        int hoursOn(int day) {
            return snowsOn(day) ? hours / 2 : hours;
        }

        /** The fewest hours from a place by all farms of a set to the church; the set grows less, so this ends. */
        int roundHours(int place, int set) {
            return fewestHours(ways, farms, place, set);
        }

        private static int fewestHours(int[] ways, int farms, int place, int set) {
            if (set == 0) {
                return ways[place * PLACES + CHURCH];
            }
            int fewest = NO_WAY;
            for (int farm = 0; farm < farms; farm++) {
                int way = ways[place * PLACES + farm + 1];
                if ((set >> farm & 1) == 1 && way < fewest) {
                    fewest = Math.min(fewest, way + fewestHours(ways, farms, farm + 1, set & ~(1 << farm)));
                }
            }
            return fewest;
        }
    }

    /** Reads the text of a choir. */
    private static final class ChoirReader {
        private static final String CLAUSES = "choir boy likes canon farm way snow ";
        private static final int CHOIR = 0;
        private static final int BOY = 1;
        private static final int LIKES = 2;
        private static final int CANON = 3;
        private static final int FARM = 4;
        private static final int WAY = 5;
        private static final int MOST_CLAUSES = 40;

        /** A text with a fault must leave the choir there was, so it is read into another one. */
        private Choir spare;

        ChoirReader() {
            spare = new Choir();
        }

        /** The choir that was told, or null if the tape has a fault. */
        Choir read(Tape tape) {
            spare.clear();
            tape.startReading();
            for (int clause = 0; clause <= MOST_CLAUSES; clause++) {
                readClause(tape, clause);
                if (tape.fault != 0 || tape.atEnd()) {
                    break;
                }
                if (!tape.takeSign(';')) {
                    tape.fail(tape.place, CANNOT_STAND);
                }
            }
            if (tape.fault != 0) {
                return null;
            }
            Choir choir = spare;
            choir.shortenWays();
            choir.told = true;
            spare = new Choir();
            return choir;
        }

        private void readClause(Tape tape, int clause) {
            int at = tape.place;
            int word = tape.takeWord(CLAUSES);
            if (word == NONE) {
                tape.fail(at, CANNOT_STAND);
            } else if (clause >= MOST_CLAUSES || (word == CHOIR) != (clause == 0) || isFull(word)) {
                tape.fail(at, TOO_MANY);
            } else {
                readNumbers(tape, word);
            }
        }

        private boolean isFull(int word) {
            switch (word) {
                case BOY: return spare.boys >= MOST_BOYS;
                case CANON: return spare.canons >= MOST_CANONS;
                case FARM: return spare.farms >= MOST_FARMS;
                default: return false;
            }
        }

        private void readNumbers(Tape tape, int word) {
            switch (word) {
                case CHOIR:
                    spare.reign = tape.takeNumber(1, 40);
                    spare.hours = tape.takeNumber(0, 24);
                    break;
                case BOY:
                    spare.voice[spare.boys] = tape.takeNumber(1, 99);
                    spare.share[spare.boys] = tape.takeNumber(0, MOST_SHARE);
                    spare.fade[spare.boys] = tape.takeNumber(0, 9);
                    spare.boys++;
                    break;
                case LIKES:
                    readLikes(tape);
                    break;
                case CANON:
                    spare.age[spare.canons] = tape.takeNumber(20, 99);
                    spare.prebend[spare.canons] = tape.takeNumber(0, 99);
                    spare.canons++;
                    break;
                case FARM:
                    spare.gift[spare.farms] = tape.takeNumber(0, 60);
                    spare.more[spare.farms] = tape.takeNumber(0, 9);
                    spare.farms++;
                    break;
                case WAY:
                    readWay(tape);
                    break;
                default:
                    spare.setSnow(tape.takeNumber(0, LAST_DAY_ASKED));
                    break;
            }
        }

        private void readLikes(Tape tape) {
            int boy = tape.takeNumber(0, spare.boys - 1);
            int other = tape.takeNumber(0, spare.boys - 1);
            spare.likes[boy * MOST_BOYS + other] = tape.takeNumber(0, 20);
        }

        private void readWay(Tape tape) {
            int one = tape.takeNumber(0, spare.farms);
            int at = tape.place;
            int other = tape.takeNumber(0, spare.farms);
            if (one == other) {
                tape.fail(at, WRONG_NUMBER);
            }
            spare.setWay(one, other, tape.takeNumber(1, 12));
        }
    }

    /** A rule as steps on a stack: numbers are 0 or more, words and what is reckoned are below. */
    private static final class Rule {
        static final int MOST_CLAUSES = 12;
        static final String WORDS = "voter boy voice share likes fade was same day chest boys ";
        static final int VOTER = 0;
        static final int BOY = 1;
        static final int VOICE = 2;
        static final int SHARE = 3;
        static final int LIKES = 4;
        static final int FADE = 5;
        static final int WAS = 6;
        static final int SAME = 7;
        static final int DAY = 8;
        static final int CHEST = 9;
        static final int BOYS = 10;
        static final int WORD_COUNT = 11;

        static final int PLUS = -12;
        static final int MINUS = -13;
        static final int TIMES = -14;
        static final int OVER = -15;
        static final int REST = -16;
        static final int LESS = -17;
        static final int AT_MOST = -18;
        static final int EQUAL = -19;
        static final int AT_LEAST = -20;
        static final int GREATER = -21;
        static final int AND = -22;
        static final int OR = -23;
        static final int NOT = -24;

        /** Each step was told by a byte of its own at least, so a text's length is enough. */
        private final int[] steps;
        private int stepCount;
        private final int[] sumFrom;
        private final int[] testFrom;
        private final int[] clauseTo;
        private int clauses;
        /** Eleven levels, each with an or and an and that wait, and two sums that are compared: 26 at most. */
        private final long[] stack;

        Rule() {
            steps = new int[Tape.LONGEST];
            sumFrom = new int[MOST_CLAUSES];
            testFrom = new int[MOST_CLAUSES];
            clauseTo = new int[MOST_CLAUSES];
            stack = new long[32];
        }

        void clear() {
            stepCount = 0;
            clauses = 0;
        }

        void add(int step) {
            if (stepCount < steps.length) {
                steps[stepCount] = step;
                stepCount++;
            }
        }

        void beginClause() {
            if (clauses < MOST_CLAUSES) {
                sumFrom[clauses] = stepCount;
            }
        }

        void beginTest() {
            if (clauses < MOST_CLAUSES) {
                testFrom[clauses] = stepCount;
            }
        }

        void endClause() {
            if (clauses < MOST_CLAUSES) {
                clauseTo[clauses] = stepCount;
                clauses++;
            }
        }

        /** The sum of the first clause without a test or whose test holds; 0 without. */
        long want(long[] words) {
            for (int i = 0; i < clauses; i++) {
                if (testFrom[i] == clauseTo[i] || run(testFrom[i], clauseTo[i], words) != 0) {
                    return run(sumFrom[i], testFrom[i], words);
                }
            }
            return 0;
        }

        private long run(int from, int to, long[] words) {
            int top = 0;
            for (int i = from; i < to; i++) {
                int step = steps[i];
                if (step > PLUS) {
                    if (top >= stack.length) {
                        return 0;
                    }
                    stack[top] = step >= 0 ? step : words[-1 - step];
                    top++;
                } else if (top < 1 || step != NOT && top < 2) {
                    return 0;
                } else if (step == NOT) {
                    stack[top - 1] = stack[top - 1] == 0 ? 1 : 0;
                } else {
                    top--;
                    stack[top - 1] = reckon(step, stack[top - 1], stack[top]);
                }
            }
            return top < 1 ? 0 : stack[top - 1];
        }

        private static long reckon(int step, long a, long b) {
            switch (step) {
                case PLUS: return a + b;
                case MINUS: return a - b;
                case TIMES: return a * b;
                case OVER: return b == 0 ? 0 : a / b;
                case REST: return b == 0 ? 0 : a % b;
                case LESS: return a < b ? 1 : 0;
                case AT_MOST: return a <= b ? 1 : 0;
                case EQUAL: return a == b ? 1 : 0;
                case AT_LEAST: return a >= b ? 1 : 0;
                case GREATER: return a > b ? 1 : 0;
                case AND: return a & b;
                case OR: return a | b;
                default: return 0;
            }
        }
    }

    /** Reads the text of a rule. */
    private static final class RuleReader {
        private static final int DEEPEST = 10;
        private static final int MOST_PARTS = 60;
        private static final int MOST_NUMBER = 99999;

        private Tape tape;
        private Rule rule;
        private int parts;

        /** Whether the tape has no fault. */
        boolean read(Tape text, Rule into) {
            tape = text;
            rule = into;
            parts = 0;
            rule.clear();
            tape.startReading();
            for (int clause = 0; clause <= Rule.MOST_CLAUSES; clause++) {
                int at = tape.place;
                if (tape.takeWord("vote ") == NONE) {
                    tape.fail(at, CANNOT_STAND);
                } else if (clause >= Rule.MOST_CLAUSES) {
                    tape.fail(at, TOO_MANY);
                }
                rule.beginClause();
                readSum();
                rule.beginTest();
                if (tape.takeWord("if ") != NONE) {
                    readTest(0);
                }
                rule.endClause();
                if (tape.fault != 0 || tape.atEnd()) {
                    break;
                }
                if (!tape.takeSign(';')) {
                    tape.fail(tape.place, CANNOT_STAND);
                }
            }
            return tape.fault == 0;
        }

        /** Since and binds more, an or waits till the part behind it is whole; so do + and - in a sum. */
        private void readTest(int depth) {
            boolean waits = false;
            readFact(depth);
            for (int i = 0; i < Tape.LONGEST; i++) {
                int word = tape.takeWord("and or ");
                if (word == NONE) {
                    break;
                }
                if (word == 1 && waits) {
                    rule.add(Rule.OR);
                }
                waits = waits || word == 1;
                readFact(depth);
                if (word == 0) {
                    rule.add(Rule.AND);
                }
            }
            if (waits) {
                rule.add(Rule.OR);
            }
        }

        private void readFact(int depth) {
            int at = tape.place;
            boolean not = tape.takeWord("not ") != NONE;
            boolean opens = !not && tape.takeSign('[');
            if ((not || opens) && depth >= DEEPEST) {
                tape.fail(at, TOO_DEEP);
            } else if (not) {
                readFact(depth + 1);
                rule.add(Rule.NOT);
            } else if (opens) {
                readTest(depth + 1);
                if (!tape.takeSign(']')) {
                    tape.fail(tape.place, CANNOT_STAND);
                }
            } else {
                readSum();
                int sign = readSign();
                readSum();
                rule.add(sign);
            }
        }

        private int readSign() {
            int at = tape.place;
            int sign = 0;
            if (tape.takeTwoSigns('<', '=')) {
                sign = Rule.AT_MOST;
            } else if (tape.takeSign('<')) {
                sign = Rule.LESS;
            } else if (tape.takeTwoSigns('>', '=')) {
                sign = Rule.AT_LEAST;
            } else if (tape.takeSign('>')) {
                sign = Rule.GREATER;
            } else if (tape.takeSign('=')) {
                sign = Rule.EQUAL;
            } else {
                tape.fail(at, CANNOT_STAND);
            }
            countPart(at);
            return sign;
        }

        private void readSum() {
            int waiting = 0;
            readValue();
            for (int i = 0; i < Tape.LONGEST; i++) {
                int step = takeStep();
                if (step == 0) {
                    break;
                }
                boolean waits = step == Rule.PLUS || step == Rule.MINUS;
                if (waits && waiting != 0) {
                    rule.add(waiting);
                }
                waiting = waits ? step : waiting;
                readValue();
                if (!waits) {
                    rule.add(step);
                }
            }
            if (waiting != 0) {
                rule.add(waiting);
            }
        }

        /** The sign by which a sum goes on; 0 if it does not. */
        private int takeStep() {
            if (tape.takeSign('+')) {
                return Rule.PLUS;
            }
            if (tape.takeSign('-')) {
                return Rule.MINUS;
            }
            if (tape.takeSign('*')) {
                return Rule.TIMES;
            }
            if (tape.takeSign('/')) {
                return Rule.OVER;
            }
            return tape.takeSign('%') ? Rule.REST : 0;
        }

        private void readValue() {
            int at = tape.place;
            if (tape.isDigitAt(at)) {
                rule.add(tape.takeNumber(0, MOST_NUMBER));
            } else {
                int word = tape.takeWord(Rule.WORDS);
                if (word == NONE) {
                    tape.fail(at, CANNOT_STAND);
                }
                rule.add(-1 - word);
            }
            countPart(at);
        }

        private void countPart(int at) {
            parts++;
            if (parts > MOST_PARTS) {
                tape.fail(at, TOO_LONG);
            }
        }
    }

    /** How all stands on a day: what acts change and what can be undone. */
    private static final class Standing {
        int day;
        int bishop;
        int firstDay;
        boolean out;
        int chest;
        int wentToBoys;
        int free;
        final int[] voice;
        final int[] share;
        final int[] was;
        final int[] age;
        final int[] given;
        final int[] laid;

        Standing() {
            bishop = NONE;
            firstDay = NONE;
            voice = new int[MOST_BOYS];
            share = new int[MOST_BOYS];
            was = new int[MOST_BOYS];
            age = new int[MOST_CANONS];
            given = new int[MOST_CANONS];
            laid = new int[MOST_FARMS];
        }

        void begin(Choir choir) {
            day = 0;
            bishop = NONE;
            firstDay = NONE;
            out = false;
            chest = 0;
            wentToBoys = 0;
            free = 0;
            System.arraycopy(choir.voice, 0, voice, 0, MOST_BOYS);
            System.arraycopy(choir.share, 0, share, 0, MOST_BOYS);
            Arrays.fill(was, 0);
            System.arraycopy(choir.age, 0, age, 0, MOST_CANONS);
            Arrays.fill(given, NONE);
            System.arraycopy(choir.gift, 0, laid, 0, MOST_FARMS);
        }

        void copyFrom(Standing other) {
            day = other.day;
            bishop = other.bishop;
            firstDay = other.firstDay;
            out = other.out;
            chest = other.chest;
            wentToBoys = other.wentToBoys;
            free = other.free;
            System.arraycopy(other.voice, 0, voice, 0, MOST_BOYS);
            System.arraycopy(other.share, 0, share, 0, MOST_BOYS);
            System.arraycopy(other.was, 0, was, 0, MOST_BOYS);
            System.arraycopy(other.age, 0, age, 0, MOST_CANONS);
            System.arraycopy(other.given, 0, given, 0, MOST_CANONS);
            System.arraycopy(other.laid, 0, laid, 0, MOST_FARMS);
        }

        void crown(int boy) {
            bishop = boy;
            firstDay = day;
            was[boy]++;
        }

        /** The day from the vote on. */
        void endDay(Choir choir) {
            if (!choir.snowsOn(day)) {
                layBy(choir);
            }
            fadeVoices(choir);
            endReign(choir);
            if (day % 10 == 9) {
                growOlder(choir);
            }
            day++;
            out = false;
        }

        private void layBy(Choir choir) {
            for (int farm = 0; farm < choir.farms; farm++) {
                laid[farm] = Math.min(choir.gift[farm], laid[farm] + choir.more[farm]);
            }
        }

        private void fadeVoices(Choir choir) {
            for (int boy = 0; boy < choir.boys; boy++) {
                voice[boy] = Math.max(0, voice[boy] - choir.fade[boy]);
            }
        }

        private void endReign(Choir choir) {
            if (bishop != NONE && (voice[bishop] == 0 || day + 1 - firstDay >= choir.reign)) {
                bishop = NONE;
                firstDay = NONE;
            }
        }

        private void growOlder(Choir choir) {
            for (int canon = 0; canon < choir.canons; canon++) {
                if (age[canon] >= DEAD) {
                    continue;
                }
                age[canon]++;
                if (age[canon] == DEAD) {
                    free |= 1 << canon;
                }
            }
        }

        /** The bishop goes out to a farm: what comes into the chest. */
        int fetch(int farm) {
            int toBoys = partUpwards(laid[farm], share[bishop], 100);
            int toChest = laid[farm] - toBoys;
            out = true;
            laid[farm] = 0;
            chest = Math.min(MOST_KEPT, chest + toChest);
            wentToBoys = Math.min(MOST_KEPT, wentToBoys + toBoys);
            return toChest;
        }

        static int partUpwards(int whole, int part, int of) {
            return of < 1 ? 0 : (whole * part + of - 1) / of;
        }

        int laidBy(int set) {
            int sum = 0;
            for (int farm = 0; farm < MOST_FARMS; farm++) {
                if ((set >> farm & 1) == 1) {
                    sum += laid[farm];
                }
            }
            return sum;
        }

        /** The day on which a canon who lives dies: birthdays are the days that end in 9. */
        int deathDay(int canon) {
            int birthday = day - day % 10 + 9;
            return birthday + 10 * (DEAD - 1 - age[canon]);
        }

        int brokenVoices(int boys) {
            int set = 0;
            for (int boy = 0; boy < boys; boy++) {
                if (voice[boy] == 0) {
                    set |= 1 << boy;
                }
            }
            return set;
        }
    }

    /** A vote, and what would come of it by other ways. */
    private static final class Poll {
        static final int SHARES = 5;
        static final int SHARE_STEP = 5;

        private int boys;
        /** Those whose voices are not broken, as bits. */
        private int unbroken;
        private final long[] wants;
        final int[] choice;
        final int[] tally;
        int chosen;
        private final long[] words;
        /** Who is chosen by each two shares that two boys promise. */
        private final int[] chosenByShares;

        Poll() {
            wants = new long[MOST_BOYS * MOST_BOYS];
            choice = new int[MOST_BOYS];
            tally = new int[MOST_BOYS];
            words = new long[Rule.WORD_COUNT];
            chosenByShares = new int[SHARES * SHARES];
        }

        void hold(Choir choir, Standing now, Rule rule) {
            boys = choir.boys;
            unbroken = (1 << boys) - 1 & ~now.brokenVoices(boys);
            words[Rule.DAY] = now.day;
            words[Rule.CHEST] = now.chest;
            words[Rule.BOYS] = Integer.bitCount(unbroken);
            for (int boy = 0; boy < boys; boy++) {
                if (!isIn(unbroken, boy)) {
                    continue;
                }
                setWordsOf(boy, choir, now);
                for (int voter = 0; voter < boys; voter++) {
                    int likes = choir.likes[voter * MOST_BOYS + boy];
                    words[Rule.VOTER] = voter;
                    words[Rule.LIKES] = likes;
                    words[Rule.SAME] = voter == boy ? 1 : 0;
                    wants[voter * MOST_BOYS + boy] = rule == null ? likes + now.share[boy] : rule.want(words);
                }
            }
            for (int voter = 0; voter < boys; voter++) {
                int most = mostWanted(voter, unbroken);
                choice[voter] = most != NONE && wants[voter * MOST_BOYS + most] > 0 ? most : NONE;
            }
            chosen = chosenWith(NONE, 0);
        }

        private void setWordsOf(int boy, Choir choir, Standing now) {
            words[Rule.BOY] = boy;
            words[Rule.VOICE] = now.voice[boy];
            words[Rule.SHARE] = now.share[boy];
            words[Rule.FADE] = choir.fade[boy];
            words[Rule.WAS] = now.was[boy];
        }

        private static boolean isIn(int set, int boy) {
            return (set >> boy & 1) == 1;
        }

        private int mostWanted(int voter, int set) {
            int most = NONE;
            for (int boy = 0; boy < boys; boy++) {
                if (isIn(set, boy) && (most == NONE || wantsMore(voter, boy, most))) {
                    most = boy;
                }
            }
            return most;
        }

        private boolean wantsMore(int voter, int boy, int other) {
            return wants[voter * MOST_BOYS + boy] > wants[voter * MOST_BOYS + other];
        }

        /** Who is chosen, if those of a set vote for a boy in place of whom they do. */
        private int chosenWith(int boy, int wonOver) {
            Arrays.fill(tally, 0);
            for (int voter = 0; voter < boys; voter++) {
                int vote = isIn(wonOver, voter) ? boy : choice[voter];
                if (vote != NONE) {
                    tally[vote]++;
                }
            }
            int most = NONE;
            for (int i = 0; i < boys; i++) {
                if (tally[i] > 0 && (most == NONE || tally[i] > tally[most])) {
                    most = i;
                }
            }
            return most;
        }

        int mostPoints() {
            int most = NONE;
            int points = NONE;
            for (int boy = 0; boy < boys; boy++) {
                if (isIn(unbroken, boy) && pointsOf(boy) > points) {
                    most = boy;
                    points = pointsOf(boy);
                }
            }
            return most;
        }

        private int pointsOf(int boy) {
            int points = 0;
            for (int other = 0; other < boys; other++) {
                if (isIn(unbroken, other)) {
                    points += countWhoWantMore(boy, other);
                }
            }
            return points;
        }

        private int countWhoWantMore(int boy, int other) {
            int count = 0;
            for (int voter = 0; voter < boys; voter++) {
                if (wantsMore(voter, boy, other)) {
                    count++;
                }
            }
            return count;
        }

        int aheadOfEach() {
            for (int boy = 0; boy < boys; boy++) {
                if (isIn(unbroken, boy) && isAheadOfEach(boy)) {
                    return boy;
                }
            }
            return NONE;
        }

        private boolean isAheadOfEach(int boy) {
            for (int other = 0; other < boys; other++) {
                if (other != boy && isIn(unbroken, other)
                        && countWhoWantMore(boy, other) <= countWhoWantMore(other, boy)) {
                    return false;
                }
            }
            return true;
        }

        int lastLeft() {
            int left = unbroken;
            for (int i = 0; i < MOST_BOYS && Integer.bitCount(left) > 1; i++) {
                left &= ~(1 << fewestFirstVotes(left));
            }
            for (int boy = 0; boy < boys; boy++) {
                if (isIn(left, boy)) {
                    return boy;
                }
            }
            return NONE;
        }

        private int fewestFirstVotes(int left) {
            Arrays.fill(tally, 0);
            for (int voter = 0; voter < boys; voter++) {
                int first = mostWanted(voter, left);
                if (first != NONE) {
                    tally[first]++;
                }
            }
            int fewest = NONE;
            for (int boy = 0; boy < boys; boy++) {
                if (isIn(left, boy) && (fewest == NONE || tally[boy] <= tally[fewest])) {
                    fewest = boy;
                }
            }
            return Math.max(0, fewest);
        }

        int fewestToWinOver(int boy) {
            int fewest = (1 << boys) - 1;
            for (int set = 0; set < 1 << boys; set++) {
                if (Integer.bitCount(set) < Integer.bitCount(fewest) && chosenWith(boy, set) == boy) {
                    fewest = set;
                }
            }
            return fewest;
        }

        void tryPromises(Choir choir, Standing trial, Rule rule, int one, int other) {
            for (int i = 0; i < SHARES * SHARES; i++) {
                trial.share[one] = SHARE_STEP * (i / SHARES);
                trial.share[other] = SHARE_STEP * (i % SHARES);
                hold(choir, trial, rule);
                chosenByShares[i] = chosen;
            }
        }

        int countRests(int one, int other) {
            int count = 0;
            for (int i = 0; i < SHARES * SHARES; i++) {
                if (isRest(i, one, other)) {
                    count++;
                }
            }
            return count;
        }

        int firstRest(int one, int other) {
            for (int i = 0; i < SHARES * SHARES; i++) {
                if (isRest(i, one, other)) {
                    return i;
                }
            }
            return NONE;
        }

        private boolean isRest(int shares, int one, int other) {
            int ofOne = shares / SHARES;
            int ofOther = shares % SHARES;
            int gainOfOne = gain(ofOne, ofOther, one, ofOne);
            int gainOfOther = gain(ofOne, ofOther, other, ofOther);
            for (int i = 0; i < SHARES; i++) {
                if (gain(i, ofOther, one, i) > gainOfOne || gain(ofOne, i, other, i) > gainOfOther) {
                    return false;
                }
            }
            return true;
        }

        private int gain(int ofOne, int ofOther, int boy, int own) {
            return chosenByShares[ofOne * SHARES + ofOther] == boy ? MOST_SHARE - SHARE_STEP * own : 0;
        }
    }

    /** Days that go by, and winters of drawn voices. */
    private static final class Days {
        private final Poll poll;
        private long x;
        int chosen;
        int broken;

        Days(Poll poll) {
            this.poll = poll;
        }

        /** Whether a vote chose somebody. */
        boolean pass(Choir choir, Standing standing, Rule rule) {
            boolean chose = false;
            if (standing.bishop == NONE) {
                poll.hold(choir, standing, rule);
                chose = poll.chosen != NONE;
                if (chose) {
                    standing.crown(poll.chosen);
                }
            }
            standing.endDay(choir);
            return chose;
        }

        void beginWinters(int from) {
            x = from;
            chosen = 0;
            broken = 0;
        }

        void passWinter(Choir choir, Standing standing, Rule rule, int n, int p) {
            for (int i = 0; i < n; i++) {
                drawVoices(choir.boys, standing, p);
                if (pass(choir, standing, rule)) {
                    chosen++;
                }
            }
            broken += Integer.bitCount(standing.brokenVoices(choir.boys));
        }

        private void drawVoices(int boys, Standing standing, int p) {
            for (int boy = 0; boy < boys; boy++) {
                if (standing.voice[boy] > 0 && draw() % 100 < p) {
                    standing.voice[boy] = 0;
                }
            }
        }

        private long draw() {
            x = (x * 1103515245L + 12345L) % 2147483648L;
            return x / 65536L;
        }
    }

    /** The last acts, by how all stood ahead of each. */
    private static final class Past {
        private static final int MOST = 20;

        private final Standing[] ring;
        private int next;
        int kept;

        Past() {
            ring = new Standing[MOST];
            for (int i = 0; i < MOST; i++) {
                ring[i] = new Standing();
            }
        }

        void keep(Standing standing) {
            ring[next].copyFrom(standing);
            next = (next + 1) % MOST;
            kept = Math.min(MOST, kept + 1);
        }

        boolean takeBack(Standing into) {
            if (kept < 1) {
                return false;
            }
            next = (next + MOST - 1) % MOST;
            kept--;
            into.copyFrom(ring[next]);
            return true;
        }

        void forget() {
            kept = 0;
        }
    }

    /** All that an image holds: all but the tape, the rules and what can be undone. */
    private static final class Whole {
        Choir choir;
        final Standing standing;
        int force;
        int x;
        int notes;
        final int[] noteDay;
        final int[] noteBishop;
        boolean made;

        Whole(Choir choir) {
            this.choir = choir;
            standing = new Standing();
            force = NONE;
            noteDay = new int[MOST_NOTES];
            noteBishop = new int[MOST_NOTES];
        }

        void copyFrom(Whole other) {
            choir = other.choir;
            standing.copyFrom(other.standing);
            force = other.force;
            x = other.x;
            notes = other.notes;
            System.arraycopy(other.noteDay, 0, noteDay, 0, MOST_NOTES);
            System.arraycopy(other.noteBishop, 0, noteBishop, 0, MOST_NOTES);
        }
    }

    /** Who is bishop behind each day from the begin on, by no rule (row 0) and by each one. */
    private static final class Chronicle {
        private static final int ROWS = MOST_RULES + 1;
        private static final int DAYS = LAST_DAY_ASKED + 1;

        private final Days days;
        private final Standing standing;
        private final int[] bishops;
        /** Choirs and rules never change, so a row that was told of a choir need not be told again. */
        private final Choir[] toldOf;
        /** The rows by which all notes are so, as bits. */
        int fitting;

        Chronicle(Days days) {
            this.days = days;
            standing = new Standing();
            bishops = new int[ROWS * DAYS];
            toldOf = new Choir[ROWS];
        }

        void study(Whole whole, Rule[] rules, int ruleCount) {
            fitting = 0;
            for (int row = 0; row <= ruleCount && row < ROWS; row++) {
                if (toldOf[row] != whole.choir) {
                    tell(row, whole.choir, row == 0 ? null : rules[row - 1]);
                }
                if (fits(row, whole)) {
                    fitting |= 1 << row;
                }
            }
        }

        private void tell(int row, Choir choir, Rule rule) {
            standing.begin(choir);
            for (int day = 0; day < DAYS; day++) {
                days.pass(choir, standing, rule);
                bishops[row * DAYS + day] = standing.bishop;
            }
            toldOf[row] = choir;
        }

        private boolean fits(int row, Whole whole) {
            for (int i = 0; i < whole.notes; i++) {
                if (bishops[row * DAYS + whole.noteDay[i]] != whole.noteBishop[i]) {
                    return false;
                }
            }
            return true;
        }

        private boolean isFitting(int row) {
            return (fitting >> row & 1) == 1;
        }

        /** The rule of the first row that fits: NONE for row 0, ABSENT if there is no such row. */
        int firstFitting() {
            for (int row = 0; row < ROWS; row++) {
                if (isFitting(row)) {
                    return row - 1;
                }
            }
            return ABSENT;
        }

        int bestDay() {
            int best = 0;
            int fewest = mostAlike(0);
            for (int day = 1; day < DAYS; day++) {
                int alike = mostAlike(day);
                if (alike < fewest) {
                    best = day;
                    fewest = alike;
                }
            }
            return best;
        }

        int mostAlike(int day) {
            int most = 0;
            for (int row = 0; row < ROWS; row++) {
                if (isFitting(row)) {
                    most = Math.max(most, countAlike(row, day));
                }
            }
            return most;
        }

        private int countAlike(int row, int day) {
            int count = 0;
            for (int other = 0; other < ROWS; other++) {
                if (isFitting(other) && bishops[other * DAYS + day] == bishops[row * DAYS + day]) {
                    count++;
                }
            }
            return count;
        }
    }
}
