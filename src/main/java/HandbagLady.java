/** A street that goes round, bags with habits and friends, and the bearers whom they lead. */
public final class HandbagLady {
    private static final int PLACES = 10;
    private static final int DIGITS = 10;
    private static final int KINDS = 6;
    private static final int WIDOWS = 1;
    private static final int CROCODILE = 2;
    private static final int FRAME = 3;
    private static final int PAIR = 4;
    private static final int OLD = 5;

    private static final int MOST_BAGS = 6;
    private static final int MOST_BEARERS = 5;
    private static final int MOST_GIVEN = 4;
    private static final int MOST_HELD = 99;
    private static final int FULL_BREATH = 9;
    private static final int RESTED_BREATH = 3;
    private static final int MOST_HOURS = 60;
    private static final int LAST_HOUR = 999;
    private static final int MOST_LETTERS = 96;
    private static final int MOST_LETTER = 255;
    private static final int MOST_ROW = 12;
    private static final int MOST_ROW_NUMBER = 99;
    private static final int MOST_BACK = 8;
    private static final int MOST_SLEEP_HOURS = 8;
    private static final int MOST_SLEEP_ODDS = 20;
    private static final int MOST_WEEKS = 20;
    private static final int WEEK_HOURS = 24;

    // None is -9 inside as well as outside, so that no answer has to be translated.
    private static final int NONE = -9;
    // Later than every hour that is looked at, so that a way that never leads there comes last.
    private static final int NEVER = MOST_HOURS + 1;
    // More hours or snaps than there can be, so that whatever is counted first is fewer.
    private static final int MORE_THAN_ANY = 1000000;
    private static final int ALL_BUT_THE_SIGN = 2147483647;

    private static final int NOBODY = -1;
    private static final int OTHER = -2;
    private static final int STATE = -3;
    private static final int BELOW = -4;
    private static final int ROOM = -6;
    private static final int REFUSAL_COUNTS = 7;
    private static final long LONG_REFUSAL = 4000000000000000000L;

    private final Street now = new Street();
    private final Street mind = new Street();
    private final Street picture = new Street();
    private boolean pictured = false;
    private final Street[] past = new Street[MOST_BACK];
    private int pastCount = 0;
    private final int[] letters = new int[MOST_LETTERS];
    private int letterCount = 0;
    private final int[] told = new int[MOST_ROW];
    private int toldCount = 0;
    private final int[] refusals = new int[REFUSAL_COUNTS];
    private final int[] tally = new int[PLACES];
    private final Ways ways = new Ways();

    public HandbagLady() {
        for (int k = 0; k < MOST_BACK; k++) {
            past[k] = new Street();
        }
    }

    // ---- letters and the bequest

    public int feed(int letter) {
        if (letter < 0) {
            return refuse(BELOW);
        }
        if (letter > MOST_LETTER || letterCount >= MOST_LETTERS) {
            return refuse(ROOM);
        }
        letters[letterCount] = letter;
        letterCount++;
        return letterCount;
    }

    public int bequest() {
        int length = letterCount;
        letterCount = 0;
        int place = formFault(length);
        if (place >= 0) {
            return -1000 - place;
        }
        think();
        int statements = 0;
        // Every statement has a semicolon behind, so that the next one begins there.
        for (int p = 0; p < length; p++) {
            if (p == 0 || letters[p - 1] == ';') {
                if (!carryOut(p)) {
                    return -2000 - p;
                }
                statements++;
            }
        }
        now.copyFrom(mind);
        forgetPast();
        return statements;
    }

    /** The place of the first letter with which no bequest can go on; -9 if it is one. */
    private int formFault(int length) {
        int digits = NONE;
        for (int p = 0; p < length; p++) {
            int letter = letters[p];
            if (p == 0 || letters[p - 1] == ';') {
                digits = digitsBehind(letter);
                if (digits < 0) {
                    return p;
                }
            } else if (digits > 0) {
                if (letter < '0' || letter > '9') {
                    return p;
                }
                digits--;
            } else if (letter != ';') {
                return p;
            }
        }
        return length > 0 && letters[length - 1] == ';' ? NONE : length;
    }

    private static int digitsBehind(int letter) {
        switch (letter) {
            case 'b':
            case 'l':
                return 3;
            case 'g':
            case 'f':
            case 'h':
                return 2;
            case 'c':
                return 1;
            default:
                return NONE;
        }
    }

    private int digitAt(int p) {
        return p >= 0 && p < MOST_LETTERS ? letters[p] - '0' : NONE;
    }

    /** Carries out in mind the statement whose first letter is at p; false if it is not as it must be. */
    private boolean carryOut(int p) {
        int first = digitAt(p + 1);
        int second = digitAt(p + 2);
        int third = digitAt(p + 3);
        switch (letters[p]) {
            case 'b':
                return first < KINDS && mind.addBag(first, second, third) >= 0;
            case 'l':
                return mind.addBearer(first, second, third) >= 0;
            case 'g':
                return mind.hand(first, second);
            case 'f':
                return mind.befriend(first, second);
            case 'c':
                mind.colonel = first;
                return true;
            default:
                int n = 10 * first + second;
                if (n < 1 || n > MOST_HOURS || mind.hour + n > LAST_HOUR) {
                    return false;
                }
                mind.goHours(n);
                return true;
        }
    }

    // ---- what there is

    public int bagOf(int bag, int what) {
        if (!now.hasBag(bag)) {
            return refuse(NOBODY);
        }
        switch (what) {
            case 0:
                return now.kind[bag];
            case 1:
                return now.figure[bag];
            case 2:
                return now.habit[bag];
            case 3:
                return now.friend[bag];
            case 4:
                return now.held[bag];
            case 5:
                return now.keeper[bag];
            case 6:
                return now.pullOf(bag);
            default:
                return refuse(OTHER);
        }
    }

    public int bearerOf(int bearer, int what) {
        if (!now.hasBearer(bearer)) {
            return refuse(NOBODY);
        }
        switch (what) {
            case 0:
                return now.will[bearer];
            case 1:
                return now.want[bearer];
            case 2:
                return now.at[bearer];
            case 3:
                return now.carried[bearer];
            case 4:
                return now.breath[bearer];
            case 5:
                return now.isLed(bearer) ? 1 : 0;
            default:
                return refuse(OTHER);
        }
    }

    public int count(int what) {
        switch (what) {
            case 0:
                return now.bags;
            case 1:
                return now.bearers;
            case 2:
                return now.hour;
            case 3:
                return now.colonel;
            case 4:
                return now.bagsHad();
            case 5:
                return now.allBreath();
            case 6:
                return now.ledOnes();
            case 7:
                return letterCount;
            case 8:
                return toldCount;
            case 9:
                return pastCount;
            default:
                return what >= 11 && what <= 16 ? refusals[what - 10] : NONE;
        }
    }

    // ---- what is done

    public int bag(int kind, int figure, int habit) {
        if (kind < 0 || kind >= KINDS) {
            return refuse(OTHER);
        }
        if (figure < 0 || habit < 0) {
            return refuse(BELOW);
        }
        if (figure >= DIGITS || habit >= PLACES || now.bags >= MOST_BAGS) {
            return refuse(ROOM);
        }
        forgetPast();
        return now.addBag(kind, figure, habit);
    }

    public int bearer(int will, int want, int at) {
        if (will < 0 || want < 0 || at < 0) {
            return refuse(BELOW);
        }
        if (will >= DIGITS || want >= PLACES || at >= PLACES || now.bearers >= MOST_BEARERS) {
            return refuse(ROOM);
        }
        forgetPast();
        return now.addBearer(will, want, at);
    }

    public int gives(int bag, int bearer) {
        if (!now.hasBag(bag) || !now.hasBearer(bearer)) {
            return refuse(NOBODY);
        }
        remember();
        int had = now.carried[bearer];
        now.hand(bag, bearer);
        return had;
    }

    public int friends(int bag, int other) {
        if (!now.hasBag(bag) || !now.hasBag(other)) {
            return refuse(NOBODY);
        }
        forgetPast();
        now.befriend(bag, other);
        return bag == other ? 0 : 1;
    }

    public int wants(int bearer, int v) {
        if (!now.hasBearer(bearer) || !isPlace(v)) {
            return refuse(NOBODY);
        }
        remember();
        int was = now.want[bearer];
        now.want[bearer] = v;
        return was;
    }

    public int put(int bearer, int v) {
        if (!now.hasBearer(bearer) || !isPlace(v)) {
            return refuse(NOBODY);
        }
        remember();
        int was = now.at[bearer];
        now.at[bearer] = v;
        return was;
    }

    public int colonel(int v) {
        if (!isPlace(v)) {
            return refuse(NOBODY);
        }
        remember();
        int was = now.colonel;
        now.colonel = v;
        return was;
    }

    public int hours(int n) {
        if (n < 1) {
            return refuse(BELOW);
        }
        if (n > MOST_HOURS || now.hour + n > LAST_HOUR) {
            return refuse(ROOM);
        }
        forgetPast();
        now.startTallies();
        now.goHours(n);
        return now.snapped;
    }

    public int back() {
        if (pastCount <= 0) {
            return refuse(STATE);
        }
        pastCount--;
        now.copyFrom(past[pastCount]);
        return pastCount;
    }

    public int image() {
        picture.copyFrom(now);
        pictured = true;
        return now.hour;
    }

    public int restore() {
        if (!pictured) {
            return refuse(STATE);
        }
        now.copyFrom(picture);
        forgetPast();
        return now.hour;
    }

    private void remember() {
        if (pastCount >= MOST_BACK) {
            Street oldest = past[0];
            for (int k = 1; k < MOST_BACK; k++) {
                past[k - 1] = past[k];
            }
            past[MOST_BACK - 1] = oldest;
            pastCount = MOST_BACK - 1;
        }
        past[pastCount].copyFrom(now);
        pastCount++;
    }

    private void forgetPast() {
        pastCount = 0;
    }

    // ---- in mind: hours on

    public int behind(int bearer, int n, int what) {
        if (!now.hasBearer(bearer)) {
            return refuse(NOBODY);
        }
        int wrong = wrongHours(n);
        if (wrong != 0) {
            return refuse(wrong);
        }
        if (what < 0 || what > 3) {
            return refuse(OTHER);
        }
        think();
        mind.goHours(n);
        if (what == 0) {
            return mind.at[bearer];
        }
        if (what == 1) {
            return mind.breath[bearer];
        }
        return what == 2 ? mind.ledHours[bearer] : mind.pullOf(mind.carried[bearer]);
    }

    public int meet(int one, int other) {
        if (!areTwo(one, other)) {
            return refuse(NOBODY);
        }
        think();
        return orNone(firstMeeting(one, other, MOST_HOURS));
    }

    public int company(int n, int what) {
        int wrong = wrongHoursOrWhat(n, what, 1);
        if (wrong != 0) {
            return refuse(wrong);
        }
        think();
        mind.goHours(n);
        startPlaceTally();
        tallyPlaces();
        int place = fullestPlace();
        return what == 0 ? tally[place] : place;
    }

    public int breathless(int bearer) {
        if (bearer != -1 && !now.hasBearer(bearer)) {
            return refuse(NOBODY);
        }
        think();
        for (int n = 0; n <= MOST_HOURS; n++) {
            if (bearer == -1) {
                int who = firstOutOfBreath();
                if (who >= 0) {
                    return who;
                }
            } else if (mind.breath[bearer] == 0) {
                return n;
            }
            mind.goHours(1);
        }
        return NONE;
    }

    private int firstOutOfBreath() {
        for (int l = 0; l < mind.bearers; l++) {
            if (mind.breath[l] == 0) {
                return l;
            }
        }
        return NONE;
    }

    public int snaps(int n, int what) {
        int wrong = wrongHoursOrWhat(n, what, 2);
        if (wrong != 0) {
            return refuse(wrong);
        }
        if (what == 1) {
            return whereColonel(n);
        }
        think();
        mind.goHours(n);
        return what == 0 ? mind.snapped : leastLed();
    }

    private int whereColonel(int n) {
        int best = 0;
        int fewest = MORE_THAN_ANY;
        for (int v = 0; v < PLACES; v++) {
            think();
            mind.colonel = v;
            mind.goHours(n);
            if (mind.snapped < fewest) {
                fewest = mind.snapped;
                best = v;
            }
        }
        return best;
    }

    private int leastLed() {
        int best = NONE;
        for (int l = 0; l < mind.bearers; l++) {
            if (best < 0 || mind.ledHours[l] < mind.ledHours[best]) {
                best = l;
            }
        }
        return best;
    }

    public int tired(int n) {
        int wrong = wrongHours(n);
        if (wrong != 0) {
            return refuse(wrong);
        }
        think();
        mind.goHours(n);
        return mind.allBreath();
    }

    public int visits(int bearer, int v, int n) {
        if (!now.hasBearer(bearer) || !isPlace(v)) {
            return refuse(NOBODY);
        }
        int wrong = wrongHours(n);
        if (wrong != 0) {
            return refuse(wrong);
        }
        think();
        int times = 0;
        for (int k = 1; k <= n; k++) {
            mind.goHours(1);
            if (mind.at[bearer] == v) {
                times++;
            }
        }
        return times;
    }

    public int together(int one, int other, int n) {
        if (!areTwo(one, other)) {
            return refuse(NOBODY);
        }
        int wrong = wrongHours(n);
        if (wrong != 0) {
            return refuse(wrong);
        }
        think();
        int times = 0;
        for (int k = 1; k <= n; k++) {
            mind.goHours(1);
            if (mind.at[one] == mind.at[other]) {
                times++;
            }
        }
        return times;
    }

    public int rests(int bearer, int n) {
        if (!now.hasBearer(bearer)) {
            return refuse(NOBODY);
        }
        int wrong = wrongHours(n);
        if (wrong != 0) {
            return refuse(wrong);
        }
        think();
        mind.goHours(n);
        return mind.restHours[bearer];
    }

    public int firstSnap() {
        think();
        for (int n = 1; n <= MOST_HOURS; n++) {
            mind.goHours(1);
            if (mind.snapped > 0) {
                return n;
            }
        }
        return NONE;
    }

    public int busy(int n, int what) {
        int wrong = wrongHoursOrWhat(n, what, 1);
        if (wrong != 0) {
            return refuse(wrong);
        }
        think();
        startPlaceTally();
        tallyPlaces();
        for (int k = 1; k <= n; k++) {
            mind.goHours(1);
            tallyPlaces();
        }
        int place = fullestPlace();
        return what == 0 ? place : tally[place];
    }

    public int gathering() {
        think();
        for (int n = 0; n <= MOST_HOURS; n++) {
            if (mind.allAtOnePlace()) {
                return n;
            }
            mind.goHours(1);
        }
        return NONE;
    }

    public int farthest(int n, int what) {
        int wrong = wrongHoursOrWhat(n, what, 1);
        if (wrong != 0) {
            return refuse(wrong);
        }
        think();
        mind.goHours(n);
        int pair = NONE;
        int most = NONE;
        for (int i = 0; i < mind.bearers; i++) {
            for (int j = i + 1; j < mind.bearers; j++) {
                int apart = placesApart(mind.at[i], mind.at[j]);
                if (apart > most) {
                    most = apart;
                    pair = 10 * i + j;
                }
            }
        }
        return what == 0 ? pair : most;
    }

    private void startPlaceTally() {
        for (int v = 0; v < PLACES; v++) {
            tally[v] = 0;
        }
    }

    private void tallyPlaces() {
        for (int l = 0; l < mind.bearers; l++) {
            if (isPlace(mind.at[l])) {
                tally[mind.at[l]]++;
            }
        }
    }

    private int fullestPlace() {
        int best = 0;
        for (int v = 1; v < PLACES; v++) {
            if (tally[v] > tally[best]) {
                best = v;
            }
        }
        return best;
    }

    // ---- in mind: what would be, were it otherwise

    public int bestBag(int bearer, int v, int what) {
        if (!now.hasBearer(bearer) || !isPlace(v)) {
            return refuse(NOBODY);
        }
        if (what < 0 || what > 1) {
            return refuse(OTHER);
        }
        int best = NONE;
        int soonest = NEVER;
        for (int b = 0; b < now.bags; b++) {
            think();
            mind.hand(b, bearer);
            int when = firstAt(bearer, v, soonest - 1);
            if (when < soonest) {
                soonest = when;
                best = b;
            }
        }
        return what == 0 ? best : orNone(soonest);
    }

    public int hers(int bearer) {
        if (!now.hasBearer(bearer)) {
            return refuse(NOBODY);
        }
        think();
        for (int n = 0; n <= MOST_HOURS; n++) {
            if (mind.isLed(bearer)) {
                return n;
            }
            mind.goHours(1);
        }
        return NONE;
    }

    public int errand(int bearer, int v) {
        if (!now.hasBearer(bearer) || !isPlace(v)) {
            return refuse(NOBODY);
        }
        think();
        mind.want[bearer] = v;
        return orNone(firstAt(bearer, v, MOST_HOURS));
    }

    public int defy(int bearer, int v, int n) {
        if (!now.hasBearer(bearer) || !isPlace(v)) {
            return refuse(NOBODY);
        }
        int wrong = wrongHours(n);
        if (wrong != 0) {
            return refuse(wrong);
        }
        for (int w = 0; w < DIGITS; w++) {
            think();
            mind.want[bearer] = v;
            mind.will[bearer] = w;
            if (firstAt(bearer, v, n) <= n) {
                return w;
            }
        }
        return NONE;
    }

    public int bestHabit(int bag, int v) {
        if (!now.hasBag(bag) || !isPlace(v)) {
            return refuse(NOBODY);
        }
        int bearer = now.keeper[bag];
        if (!now.hasBearer(bearer)) {
            return NONE;
        }
        int best = NONE;
        int soonest = NEVER;
        for (int h = 0; h < PLACES; h++) {
            think();
            mind.habit[bag] = h;
            int when = firstAt(bearer, v, soonest - 1);
            if (when < soonest) {
                soonest = when;
                best = h;
            }
        }
        return best;
    }

    public int tamed(int bag) {
        if (!now.hasBag(bag)) {
            return refuse(NOBODY);
        }
        int bearer = now.keeper[bag];
        if (!now.hasBearer(bearer)) {
            return NONE;
        }
        think();
        for (int f = DIGITS - 1; f >= 0; f--) {
            mind.figure[bag] = f;
            if (!mind.isLed(bearer)) {
                return f;
            }
        }
        return NONE;
    }

    public int swap(int n) {
        int wrong = wrongHours(n);
        if (wrong != 0) {
            return refuse(wrong);
        }
        think();
        mind.goHours(n);
        int fewest = mind.allLedHours();
        int pair = NONE;
        for (int i = 0; i < now.bearers; i++) {
            for (int j = i + 1; j < now.bearers; j++) {
                think();
                mind.changeBags(i, j);
                mind.goHours(n);
                if (mind.allLedHours() < fewest) {
                    fewest = mind.allLedHours();
                    pair = 10 * i + j;
                }
            }
        }
        return pair;
    }

    public int heir(int what) {
        if (what < 0 || what > 1) {
            return refuse(OTHER);
        }
        return what == 0 ? strongestWilled() : strongestBag();
    }

    private int strongestWilled() {
        int best = NONE;
        for (int l = 0; l < now.bearers; l++) {
            if (now.carried[l] < 0 && (best < 0 || now.will[l] > now.will[best])) {
                best = l;
            }
        }
        return best;
    }

    private int strongestBag() {
        int best = NONE;
        for (int b = 0; b < now.bags; b++) {
            if (best < 0 || now.pullOf(b) > now.pullOf(best)) {
                best = b;
            }
        }
        return best;
    }

    public int far(int one, int other) {
        if (!now.hasBearer(one) || !now.hasBearer(other)) {
            return refuse(NOBODY);
        }
        return placesApart(now.at[one], now.at[other]);
    }

    public int lots(int n, int z, int what) {
        if (n < 1) {
            return refuse(BELOW);
        }
        if (n > MOST_WEEKS) {
            return refuse(ROOM);
        }
        if (what < 0 || what > 1) {
            return refuse(OTHER);
        }
        int seed = z;
        int sum = 0;
        for (int week = 0; week < n; week++) {
            think();
            for (int l = 0; l < mind.bearers; l++) {
                seed = seed * 1103515245 + 12345;
                mind.want[l] = (seed & ALL_BUT_THE_SIGN) / 65536 % PLACES;
            }
            mind.goHours(WEEK_HOURS);
            sum += what == 0 ? mind.allLedHours() : mind.snapped;
        }
        return sum;
    }

    // ---- in mind: who should have which

    public int given(int one, int other, int i) {
        if (!areTwo(one, other)) {
            return refuse(NOBODY);
        }
        if (i < -1) {
            return refuse(BELOW);
        }
        if (now.bearers > MOST_GIVEN) {
            return refuse(STATE);
        }
        ways.start(now.bags, now.bearers);
        // One more than never: the first way is kept even if nobody ever meets by it.
        int soonest = NEVER + 1;
        for (int code = 0; code < ways.codes; code++) {
            if (ways.decode(code)) {
                thinkGiven();
                int when = firstMeeting(one, other, Math.min(soonest - 1, MOST_HOURS));
                if (when < soonest) {
                    soonest = when;
                    ways.keepBest();
                }
            }
        }
        return i == -1 ? orNone(soonest) : ways.bestBagOf(i);
    }

    public int quiet(int n, int i) {
        if (i < -1 || n < 0) {
            return refuse(BELOW);
        }
        if (n > MOST_HOURS) {
            return refuse(ROOM);
        }
        if (now.bearers > MOST_GIVEN) {
            return refuse(STATE);
        }
        ways.start(now.bags, now.bearers);
        int fewest = MORE_THAN_ANY;
        for (int code = 0; code < ways.codes; code++) {
            if (ways.decode(code)) {
                thinkGiven();
                int led = ledHoursBelow(n, fewest);
                if (led < fewest) {
                    fewest = led;
                    ways.keepBest();
                }
            }
        }
        return i == -1 ? fewest : ways.bestBagOf(i);
    }

    /** All hours led together in n hours; looks no further once they are as many as the limit. */
    private int ledHoursBelow(int n, int limit) {
        for (int k = 0; k < n && mind.allLedHours() < limit; k++) {
            mind.goHours(1);
        }
        return mind.allLedHours();
    }

    private void thinkGiven() {
        think();
        mind.takeAllBags();
        for (int l = 0; l < mind.bearers; l++) {
            mind.hand(ways.choiceOf(l), l);
        }
    }

    public int stable(int i) {
        if (!now.hasBearer(i)) {
            return refuse(NOBODY);
        }
        // All bearers would rather have the same bags and all bags the same bearers, so that
        // asking and keeping ends with the k-th bearer having the k-th bag.
        return now.bagRanked(now.rankOfBearer(i));
    }

    public int unled() {
        int had = 0;
        for (int rank = 0; rank < now.bearers; rank++) {
            int l = now.bearerRanked(rank);
            int b = now.bagRanked(had);
            if (l >= 0 && b >= 0 && now.plainPullOf(b) <= now.will[l]) {
                had++;
            }
        }
        return had;
    }

    // ---- the row

    public int row(int v) {
        if (v < 0) {
            return refuse(BELOW);
        }
        if (v > MOST_ROW_NUMBER || toldCount >= MOST_ROW) {
            return refuse(ROOM);
        }
        told[toldCount] = v;
        toldCount++;
        return toldCount;
    }

    public int judge(int bearer) {
        if (!now.hasBearer(bearer)) {
            return refuse(NOBODY);
        }
        think();
        int answer = firstUntrue(bearer);
        toldCount = 0;
        return answer;
    }

    public int clear() {
        int had = toldCount;
        toldCount = 0;
        return had;
    }

    /** The first number of the row that is not where she is in mind; -9 if all are. */
    private int firstUntrue(int bearer) {
        for (int k = 0; k < toldCount; k++) {
            if (told[k] != mind.at[bearer]) {
                return k;
            }
            mind.goHours(1);
        }
        return NONE;
    }

    public int whose(int bearer, int what) {
        if (!now.hasBearer(bearer)) {
            return refuse(NOBODY);
        }
        if (what < 0 || what > 3) {
            return refuse(OTHER);
        }
        int bag = now.carried[bearer];
        if (!now.hasBag(bag)) {
            return 0;
        }
        int choices = what == 0 ? KINDS : DIGITS;
        int bits = 0;
        for (int k = 0; k < choices; k++) {
            think();
            if (what == 0) {
                mind.kind[bag] = k;
            } else if (what == 1) {
                mind.figure[bag] = k;
            } else if (what == 2) {
                mind.habit[bag] = k;
            } else {
                mind.will[bearer] = k;
            }
            if (firstUntrue(bearer) < 0) {
                bits |= 1 << k;
            }
        }
        return bits;
    }

    public int nextTell(int bearer, int n, int what) {
        if (!now.hasBearer(bearer)) {
            return refuse(NOBODY);
        }
        int wrong = wrongHoursOrWhat(n, what, 1);
        if (wrong != 0) {
            return refuse(wrong);
        }
        int bag = now.carried[bearer];
        if (!now.hasBag(bag)) {
            return what;
        }
        int best = 0;
        int most = 0;
        for (int v = 0; v < PLACES; v++) {
            int unlike = placesByKinds(bearer, bag, n, v);
            if (unlike > most) {
                most = unlike;
                best = v;
            }
        }
        return what == 0 ? best : most;
    }

    /** At how many places she may be behind n hours by the kinds of her bag, the colonel at v. */
    private int placesByKinds(int bearer, int bag, int n, int v) {
        int seen = 0;
        for (int k = 0; k < KINDS; k++) {
            think();
            mind.colonel = v;
            mind.kind[bag] = k;
            mind.goHours(n);
            seen |= 1 << mind.at[bearer];
        }
        return Integer.bitCount(seen);
    }

    // ---- arm in arm, and bags that sleep

    public int arm(int one, int other, int n) {
        if (!areTwo(one, other)) {
            return refuse(NOBODY);
        }
        int wrong = wrongHours(n);
        if (wrong != 0) {
            return refuse(wrong);
        }
        think();
        mind.at[other] = mind.at[one];
        for (int k = 0; k < n; k++) {
            mind.goArmInArm(one, other);
        }
        return mind.at[one];
    }

    public long sleep(int bearer, int v, int n, int t, int part) {
        int wrong = wrongSleep(bearer, v, n, t, part);
        if (wrong != 0) {
            return LONG_REFUSAL - refuse(wrong);
        }
        long below = 1;
        for (int k = 0; k < n; k++) {
            below *= t;
        }
        long above = 0;
        for (int sleeping = 0; sleeping < 1 << n; sleeping++) {
            long weight = walkAsleep(bearer, n, t, sleeping);
            if (mind.at[bearer] == v) {
                above += weight;
            }
        }
        long common = commonDivisor(above, below);
        if (common < 1) {
            return NONE;
        }
        return part == 0 ? above / common : below / common;
    }

    private int wrongSleep(int bearer, int v, int n, int t, int part) {
        if (!now.hasBearer(bearer) || !isPlace(v)) {
            return NOBODY;
        }
        if (n < 0 || t < 2) {
            return BELOW;
        }
        if (n > MOST_SLEEP_HOURS || t > MOST_SLEEP_ODDS) {
            return ROOM;
        }
        return part < 0 || part > 1 ? OTHER : 0;
    }

    /** Goes n hours in mind, her bag asleep in those whose bit is set: out of t to the n, in how many it is so. */
    private long walkAsleep(int bearer, int n, int t, int sleeping) {
        think();
        long weight = 1;
        for (int k = 0; k < n; k++) {
            boolean asleep = (sleeping >> k & 1) == 1;
            mind.asleep = asleep ? bearer : NONE;
            weight *= asleep ? 1 : t - 1;
            mind.goHours(1);
        }
        return weight;
    }

    private static long commonDivisor(long one, long other) {
        long a = one;
        long b = other;
        // Numbers below 2 to the 63 need fewer than 100 divisions.
        for (int k = 0; k < 100 && b != 0; k++) {
            long rest = a % b;
            a = b;
            b = rest;
        }
        return a;
    }

    // ---- helpers

    private int refuse(int number) {
        if (-number > 0 && -number < REFUSAL_COUNTS) {
            refusals[-number]++;
        }
        return number;
    }

    private static int wrongHours(int n) {
        if (n < 0) {
            return BELOW;
        }
        return n > MOST_HOURS ? ROOM : 0;
    }

    private static int wrongHoursOrWhat(int n, int what, int most) {
        int wrong = wrongHours(n);
        if (wrong != 0) {
            return wrong;
        }
        return what < 0 || what > most ? OTHER : 0;
    }

    private boolean areTwo(int one, int other) {
        return now.hasBearer(one) && now.hasBearer(other) && one != other;
    }

    private static boolean isPlace(int v) {
        return v >= 0 && v < PLACES;
    }

    private static int orNone(int when) {
        return when > MOST_HOURS ? NONE : when;
    }

    private static int placesApart(int v, int w) {
        int up = Math.floorMod(w - v, PLACES);
        return Math.min(up, PLACES - up);
    }

    private void think() {
        mind.copyFrom(now);
    }

    /** The first hour up to the limit behind which she is at v in mind; else never. */
    private int firstAt(int bearer, int v, int limit) {
        for (int n = 0; n <= limit; n++) {
            if (mind.at[bearer] == v) {
                return n;
            }
            mind.goHours(1);
        }
        return NEVER;
    }

    /** The first hour up to the limit behind which the two are at one place in mind; else never. */
    private int firstMeeting(int one, int other, int limit) {
        for (int n = 0; n <= limit; n++) {
            if (mind.at[one] == mind.at[other]) {
                return n;
            }
            mind.goHours(1);
        }
        return NEVER;
    }

    /** The ways to give bearers bags, each another one, as many as can be; told by codes in their order. */
    private static final class Ways {
        private final int[] choice = new int[MOST_GIVEN];
        private final int[] best = new int[MOST_GIVEN];
        private int bags = 0;
        private int bearers = 0;
        private int codes = 0;

        private void start(int bagCount, int bearerCount) {
            bags = bagCount;
            bearers = Math.min(bearerCount, MOST_GIVEN);
            codes = 1;
            for (int l = 0; l < bearers; l++) {
                codes *= bags + 1;
            }
        }

        /** Reads a code's digits to the base of the bags and none, the first bearer's foremost; false if it is no way. */
        private boolean decode(int code) {
            int rest = code;
            int taken = 0;
            int nones = 0;
            int base = Math.max(1, bags + 1);
            for (int l = bearers - 1; l >= 0; l--) {
                int b = rest % base;
                rest /= base;
                if (b == bags) {
                    nones++;
                } else if ((taken >> b & 1) == 1) {
                    return false;
                }
                taken |= 1 << b;
                choice[l] = b == bags ? NONE : b;
            }
            return nones == Math.max(0, bearers - bags);
        }

        private void keepBest() {
            System.arraycopy(choice, 0, best, 0, MOST_GIVEN);
        }

        private int choiceOf(int l) {
            return l >= 0 && l < bearers ? choice[l] : NONE;
        }

        private int bestBagOf(int l) {
            return l >= 0 && l < bearers ? best[l] : NONE;
        }
    }

    /** All that an image holds: the bags, the bearers, the colonel and the hour; besides tallies of hours gone by. */
    private static final class Street {
        private int bags = 0;
        private final int[] kind = new int[MOST_BAGS];
        private final int[] figure = new int[MOST_BAGS];
        private final int[] habit = new int[MOST_BAGS];
        private final int[] friend = new int[MOST_BAGS];
        private final int[] held = new int[MOST_BAGS];
        private final int[] keeper = new int[MOST_BAGS];
        private int bearers = 0;
        private final int[] will = new int[MOST_BEARERS];
        private final int[] want = new int[MOST_BEARERS];
        private final int[] at = new int[MOST_BEARERS];
        private final int[] carried = new int[MOST_BEARERS];
        private final int[] breath = new int[MOST_BEARERS];
        private int colonel = 0;
        private int hour = 0;
        private final int[] ledHours = new int[MOST_BEARERS];
        private final int[] restHours = new int[MOST_BEARERS];
        private int snapped = 0;
        private int asleep = NONE;

        private void copyFrom(Street other) {
            bags = other.bags;
            System.arraycopy(other.kind, 0, kind, 0, MOST_BAGS);
            System.arraycopy(other.figure, 0, figure, 0, MOST_BAGS);
            System.arraycopy(other.habit, 0, habit, 0, MOST_BAGS);
            System.arraycopy(other.friend, 0, friend, 0, MOST_BAGS);
            System.arraycopy(other.held, 0, held, 0, MOST_BAGS);
            System.arraycopy(other.keeper, 0, keeper, 0, MOST_BAGS);
            bearers = other.bearers;
            System.arraycopy(other.will, 0, will, 0, MOST_BEARERS);
            System.arraycopy(other.want, 0, want, 0, MOST_BEARERS);
            System.arraycopy(other.at, 0, at, 0, MOST_BEARERS);
            System.arraycopy(other.carried, 0, carried, 0, MOST_BEARERS);
            System.arraycopy(other.breath, 0, breath, 0, MOST_BEARERS);
            colonel = other.colonel;
            hour = other.hour;
            startTallies();
        }

        private void startTallies() {
            for (int l = 0; l < MOST_BEARERS; l++) {
                ledHours[l] = 0;
                restHours[l] = 0;
            }
            snapped = 0;
            asleep = NONE;
        }

        private boolean hasBag(int b) {
            return b >= 0 && b < bags;
        }

        private boolean hasBearer(int l) {
            return l >= 0 && l < bearers;
        }

        private int addBag(int itsKind, int itsFigure, int itsHabit) {
            if (bags >= MOST_BAGS) {
                return NONE;
            }
            kind[bags] = itsKind;
            figure[bags] = itsFigure;
            habit[bags] = itsHabit;
            friend[bags] = NONE;
            held[bags] = 0;
            keeper[bags] = NONE;
            bags++;
            return bags - 1;
        }

        private int addBearer(int herWill, int herWant, int herPlace) {
            if (bearers >= MOST_BEARERS) {
                return NONE;
            }
            will[bearers] = herWill;
            want[bearers] = herWant;
            at[bearers] = herPlace;
            carried[bearers] = NONE;
            breath[bearers] = FULL_BREATH;
            bearers++;
            return bearers - 1;
        }

        /** Gives her the bag; false, and nothing is given, if there is no such one. */
        private boolean hand(int b, int l) {
            if (!hasBag(b) || !hasBearer(l)) {
                return false;
            }
            if (hasBearer(keeper[b])) {
                carried[keeper[b]] = NONE;
            }
            if (hasBag(carried[l])) {
                keeper[carried[l]] = NONE;
            }
            carried[l] = b;
            keeper[b] = l;
            held[b] = 0;
            return true;
        }

        private boolean befriend(int b, int other) {
            if (!hasBag(b) || !hasBag(other)) {
                return false;
            }
            unfriend(b);
            unfriend(other);
            if (b != other) {
                friend[b] = other;
                friend[other] = b;
            }
            return true;
        }

        private void unfriend(int b) {
            if (hasBag(friend[b])) {
                friend[friend[b]] = NONE;
            }
            friend[b] = NONE;
        }

        private void changeBags(int i, int j) {
            int hers = carried[i];
            carried[i] = carried[j];
            carried[j] = hers;
            startKeeping(i);
            startKeeping(j);
        }

        private void startKeeping(int l) {
            int b = carried[l];
            if (hasBag(b)) {
                keeper[b] = l;
                held[b] = 0;
            }
        }

        private void takeAllBags() {
            for (int l = 0; l < bearers; l++) {
                carried[l] = NONE;
            }
            for (int b = 0; b < bags; b++) {
                keeper[b] = NONE;
                held[b] = 0;
            }
        }

        private int pullOf(int b) {
            return hasBag(b) ? pullBy(b, held[b], keeperOfFriend(b) >= 0) : NONE;
        }

        private int plainPullOf(int b) {
            return hasBag(b) ? pullBy(b, 0, false) : NONE;
        }

        private int pullBy(int b, int heldHours, boolean friendHad) {
            switch (kind[b]) {
                case WIDOWS:
                    return figure[b] + heldHours;
                case CROCODILE:
                    return figure[b] + 4;
                case FRAME:
                    return figure[b] / 2;
                case PAIR:
                    return friendHad ? figure[b] + 2 : figure[b];
                case OLD:
                    return 2 * (figure[b] + heldHours);
                default:
                    return figure[b];
            }
        }

        private int keeperOfFriend(int b) {
            int other = friend[b];
            return other >= 0 && other < bags ? keeper[other] : NONE;
        }

        /** Where the bag on her arm leads. */
        private int goalOf(int b, int l) {
            switch (kind[b]) {
                case CROCODILE:
                    return (colonel + 5) % PLACES;
                case FRAME:
                    return hour % 2 == 0 ? habit[b] : want[l];
                case PAIR:
                    int other = keeperOfFriend(b);
                    return hasBearer(other) ? at[other] : habit[b];
                default:
                    return habit[b];
            }
        }

        private int paceOf(int b) {
            return kind[b] == OLD ? 2 : 1;
        }

        private boolean isLed(int l) {
            return hasBag(carried[l]) && pullOf(carried[l]) > will[l];
        }

        private void goHours(int n) {
            for (int k = 0; k < n; k++) {
                hour++;
                for (int l = 0; l < bearers; l++) {
                    go(l);
                }
                growHeld();
                countSnaps();
            }
        }

        private void growHeld() {
            for (int b = 0; b < bags; b++) {
                if (keeper[b] >= 0) {
                    held[b] = Math.min(held[b] + 1, MOST_HELD);
                }
            }
        }

        private void countSnaps() {
            for (int l = 0; l < bearers; l++) {
                if (hasBag(carried[l]) && kind[carried[l]] == CROCODILE && at[l] == colonel) {
                    snapped++;
                }
            }
        }

        private void go(int l) {
            if (breath[l] == 0) {
                breath[l] = RESTED_BREATH;
                restHours[l]++;
            } else if (l != asleep && isLed(l)) {
                int from = at[l];
                at[l] = toward(from, goalOf(carried[l], l), paceOf(carried[l]));
                breath[l] = Math.max(0, breath[l] - placesApart(from, at[l]));
                ledHours[l]++;
            } else {
                at[l] = toward(at[l], want[l], 1);
                breath[l] = Math.min(breath[l] + 1, FULL_BREATH);
            }
        }

        private static int toward(int from, int goal, int pace) {
            int up = Math.floorMod(goal - from, PLACES);
            int down = PLACES - up;
            if (up <= down) {
                return Math.floorMod(from + Math.min(pace, up), PLACES);
            }
            return Math.floorMod(from - Math.min(pace, down), PLACES);
        }

        /** One hour of two who are at one place and go together; nothing else changes in it. */
        private void goArmInArm(int one, int other) {
            hour++;
            int leader = leaderOf(one, other);
            int place = leader < 0
                ? toward(at[one], want[one], 1)
                : toward(at[one], goalOf(carried[leader], leader), paceOf(carried[leader]));
            at[one] = place;
            at[other] = place;
        }

        private int leaderOf(int one, int other) {
            if (!isLed(one)) {
                return isLed(other) ? other : NONE;
            }
            if (!isLed(other)) {
                return one;
            }
            return aboveWill(other) > aboveWill(one) ? other : one;
        }

        private int aboveWill(int l) {
            return pullOf(carried[l]) - will[l];
        }

        private int bagsHad() {
            int had = 0;
            for (int b = 0; b < bags; b++) {
                if (keeper[b] >= 0) {
                    had++;
                }
            }
            return had;
        }

        private int allBreath() {
            int sum = 0;
            for (int l = 0; l < bearers; l++) {
                sum += breath[l];
            }
            return sum;
        }

        private int ledOnes() {
            int ones = 0;
            for (int l = 0; l < bearers; l++) {
                if (isLed(l)) {
                    ones++;
                }
            }
            return ones;
        }

        private int allLedHours() {
            int sum = 0;
            for (int l = 0; l < bearers; l++) {
                sum += ledHours[l];
            }
            return sum;
        }

        private boolean allAtOnePlace() {
            for (int l = 1; l < bearers; l++) {
                if (at[l] != at[0]) {
                    return false;
                }
            }
            return true;
        }

        /** How many bearers bags would rather have than this one. */
        private int rankOfBearer(int l) {
            int rank = 0;
            for (int k = 0; k < bearers; k++) {
                if (will[k] < will[l] || will[k] == will[l] && k < l) {
                    rank++;
                }
            }
            return rank;
        }

        private int bearerRanked(int rank) {
            for (int l = 0; l < bearers; l++) {
                if (rankOfBearer(l) == rank) {
                    return l;
                }
            }
            return NONE;
        }

        /** How many bags bearers would rather have than this one. */
        private int rankOfBag(int b) {
            int rank = 0;
            for (int k = 0; k < bags; k++) {
                int less = Integer.compare(plainPullOf(k), plainPullOf(b));
                if (less < 0 || less == 0 && k < b) {
                    rank++;
                }
            }
            return rank;
        }

        private int bagRanked(int rank) {
            for (int b = 0; b < bags; b++) {
                if (rankOfBag(b) == rank) {
                    return b;
                }
            }
            return NONE;
        }
    }
}
