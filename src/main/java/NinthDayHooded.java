import java.util.Arrays;
import java.util.NoSuchElementException;

/**
 * People of whom each goes one day in nine under a hood, led by a guide.
 * Words in capitals in these comments are the terms of the document.
 */
public final class NinthDayHooded {
    public static final int NONE = -1;

    private static final int MOST_PEOPLE = 9;
    private static final int HOODS = 9;
    private static final int STREETS = 9;
    private static final int TRADES = 6;
    private static final int TRADE_SETS = 64;
    private static final int CROWDS = 512;
    private static final int NOT_SO = -2;
    private static final int MISSING = -3;
    private static final int UNKNOWN = -4;
    private static final int NO_SUCH_READER = -100;
    private static final int LAST_DAY = 999;
    private static final int MOST_DAYS = 40;
    private static final int BOOK_DAYS = 30;
    private static final int TOWN_SIGNS = 76;
    private static final int SEASON_SIGNS = 60;

    // What may come next in A SEASON.
    private static final int ACT = 0;
    private static final int PERHAPS_DAYS = 1;
    private static final int LETTER_AND_DIGIT = 2;
    private static final int LETTER_AND_LETTER = 3;
    private static final int DIGIT = 4;
    private static final int LETTER = 5;
    private static final int ACT_ENDS = 6;

    private final Text text = new Text();
    private final Row row = new Row();
    private final People people = new People();
    private final State state = new State();
    private final State sketch = new State();
    private final Past past = new Past();
    private final Rule rule = new Rule();
    private final Walk walk = new Walk();
    private final Tasks tasks = new Tasks();
    private final Wishes wishes = new Wishes();
    private final Thefts thefts = new Thefts();

    public NinthDayHooded() {
    }

    // ---- the town

    public int sign(int v) {
        if (!text.hasRoomFor(4)) {
            return NONE;
        }
        for (int shift = 24; shift >= 0; shift -= 8) {
            text.add((v >>> shift) & 255);
        }
        return text.length;
    }

    public boolean end(int n) {
        if (n < 0 || n > text.length) {
            return false;
        }
        text.length = n;
        return true;
    }

    public int town() {
        if (text.length == 0) {
            return 0;
        }
        int fault = townFault();
        int answer = fault == NONE ? addLines() : -1 - fault;
        text.length = 0;
        return answer;
    }

    /** Where the first sign is that can't stand in THE TOWN, or NONE. */
    private int townFault() {
        int room = MOST_PEOPLE - people.n;
        int digits = 0;
        int trade = NONE;
        int looked = Math.min(text.length, TOWN_SIGNS);
        for (int p = 0; p < looked; p++) {
            int sign = text.at(p);
            if (digits < 2) {
                if (!isNinth(sign) || digits == 0 && room == 0) {
                    return p;
                }
                digits++;
            } else if (sign == ';') {
                digits = 0;
                trade = NONE;
                room--;
            } else if (sign <= 'u' && sign - 'p' > trade) {
                trade = sign - 'p';
            } else {
                return p;
            }
        }
        if (text.length > TOWN_SIGNS) {
            return TOWN_SIGNS;
        }
        return digits < 2 ? text.length : NONE;
    }

    private int addLines() {
        int lines = 0;
        for (int p = 0; p < text.length; p++) {
            if (text.startsPart(p)) {
                addPerson(text.digitAt(p), text.digitAt(p + 1), tradesFrom(p + 2));
                lines++;
            }
        }
        past.forgetUndos();
        return lines;
    }

    private int tradesFrom(int start) {
        int trades = 0;
        for (int p = start; p < text.length && text.at(p) != ';'; p++) {
            trades |= 1 << (text.at(p) - 'p');
        }
        return trades;
    }

    private void addPerson(int hood, int street, int trades) {
        if (people.n < MOST_PEOPLE) {
            state.hood[people.n] = hood;
            state.street[people.n] = street;
            state.trades[people.n] = trades;
            people.n++;
        }
    }

    public int trust(int person) {
        int answer = NO_SUCH_READER;
        if (people.has(person)) {
            int fault = text.digitsFault(people.n);
            answer = fault == NONE ? people.n : -1 - fault;
            for (int p = 0; p < answer; p++) {
                people.trust[person * MOST_PEOPLE + p] = text.digitAt(p);
            }
        }
        text.length = 0;
        return answer;
    }

    public int likes(int person) {
        int answer = NO_SUCH_READER;
        if (people.has(person)) {
            int fault = text.digitsFault(HOODS);
            answer = fault == NONE ? HOODS : -1 - fault;
            for (int h = 0; h < answer; h++) {
                people.likes[person * HOODS + h] = text.digitAt(h);
            }
        }
        text.length = 0;
        return answer;
    }

    public int rule() {
        int fault = rule.read(text);
        text.length = 0;
        return fault == NONE ? 0 : -1 - fault;
    }

    public int of(int person, int what) throws NoSuchElementException {
        if (!people.has(person) || what < 0 || what > 5) {
            throw new NoSuchElementException();
        }
        int hood = state.hood[person];
        switch (what) {
            case 0:
                return hood;
            case 1:
                return state.street[person];
            case 2:
                return state.trades[person];
            case 3:
                return people.likes[person * HOODS + hood];
            case 4:
                return (hood + HOODS - state.now % HOODS) % HOODS;
            default:
                return state.openLessons(person);
        }
    }

    public int trusts(int one, int other) {
        return people.hasTwo(one, other) ? people.trust[one * MOST_PEOPLE + other] : NONE;
    }

    public int lessons(int person, int trade) {
        return people.has(person) && isTrade(trade) ? state.lessons[person * TRADES + trade] : NONE;
    }

    public int set(int person, int what, int v) {
        if (!people.has(person) || v < 0) {
            return NONE;
        }
        int was = NONE;
        if (what == 0 && v < HOODS) {
            was = state.hood[person];
            state.hood[person] = v;
        } else if (what == 1 && v < STREETS) {
            was = state.street[person];
            state.street[person] = v;
        } else if (what == 2 && v < TRADE_SETS) {
            was = state.trades[person];
            state.trades[person] = v;
        }
        return was;
    }

    public int sheet(int kind, int n, int f, int step) {
        if (kind < 0 || kind > 3 || n > MOST_PEOPLE) {
            return NONE;
        }
        if (kind != 3 && n < 0) {
            return NOT_SO;
        }
        int entries = kind == 3 ? 0 : n;
        int sum = 0;
        for (int p = 0; p < people.n; p++) {
            int hood = p < entries ? between(asKind(kind, f + p * step), HOODS - 1) : 0;
            state.hood[p] = hood;
            sum += hood;
        }
        return kind == 3 ? MISSING : sum;
    }

    private static int asKind(int kind, int entry) {
        if (kind == 0) {
            return (byte) entry;
        }
        return kind == 1 ? (short) entry : entry;
    }

    // ---- days

    public int cost(int hooded, int guide) throws NoSuchElementException {
        if (!people.hasTwo(hooded, guide)) {
            throw new NoSuchElementException();
        }
        rule.bringThings(people, state, hooded, guide, state.now);
        return rule.price();
    }

    public int guides(int day) {
        if (!isDay(day)) {
            return NONE;
        }
        Guides found = walk.guides;
        found.find(people, rule, state, day);
        row.clear();
        row.put(found.price());
        row.put(state.hoodedOn(day, people.n));
        for (int i = 0; i < found.n; i++) {
            row.put(found.best[i]);
        }
        return found.nobody();
    }

    public int lonely(int day) {
        if (!isDay(day)) {
            return NONE;
        }
        Guides found = walk.guides;
        found.find(people, rule, state, day);
        row.clear();
        row.put(found.withoutAny());
        return found.unled();
    }

    public int hardest() {
        Guides found = walk.guides;
        int hardest = state.now;
        int most = NONE;
        for (int day = state.now; day < state.now + HOODS; day++) {
            found.find(people, rule, state, day);
            // Worth counts one led by nobody above any COST, as the order asked here does.
            if (found.worth > most) {
                most = found.worth;
                hardest = day;
            }
        }
        row.clear();
        row.put(most / Guides.LEFT);
        row.put(most % Guides.LEFT);
        return hardest % HOODS;
    }

    public int day() {
        return goDays(1);
    }

    public int days(int n) {
        return n < 0 || n > MOST_DAYS ? NONE : goDays(n);
    }

    private int goDays(int n) {
        if (n > 0) {
            past.remember(state);
        }
        walk.begin();
        walk.passAll(people, rule, state, n);
        row.clear();
        row.put(walk.price);
        row.put(walk.learnt);
        return walk.led;
    }

    public int season() {
        int fault = seasonFault();
        if (fault != NONE) {
            text.length = 0;
            return -1 - fault;
        }
        walk.begin();
        int acts = 0;
        int stuck = 0;
        for (int p = 0; p < text.length && stuck == 0; p++) {
            if (text.startsPart(p)) {
                if (!canAct(p)) {
                    stuck = 1;
                } else {
                    if (acts == 0) {
                        past.remember(state);
                    }
                    act(p);
                    acts++;
                }
            }
        }
        text.length = 0;
        row.clear();
        row.put(stuck);
        row.put(walk.led);
        return acts;
    }

    /** Where the first sign is that can't stand in A SEASON, or NONE. */
    private int seasonFault() {
        int place = ACT;
        int looked = Math.min(text.length, SEASON_SIGNS);
        for (int p = 0; p < looked; p++) {
            place = placeBehind(place, text.at(p));
            if (place == NONE) {
                return p;
            }
        }
        if (text.length > SEASON_SIGNS) {
            return SEASON_SIGNS;
        }
        boolean whole = place == PERHAPS_DAYS || place == ACT_ENDS || text.length == 0;
        return whole ? NONE : text.length;
    }

    private static int placeBehind(int place, int sign) {
        switch (place) {
            case ACT:
                return placeInAct(sign);
            case LETTER_AND_DIGIT:
                return isLetter(sign) ? DIGIT : NONE;
            case LETTER_AND_LETTER:
                return isLetter(sign) ? LETTER : NONE;
            case DIGIT:
                return isNinth(sign) ? ACT_ENDS : NONE;
            case LETTER:
                return isLetter(sign) ? ACT_ENDS : NONE;
            default:
                if (place == PERHAPS_DAYS && sign >= '1' && sign <= '9') {
                    return ACT_ENDS;
                }
                return sign == ';' ? ACT : NONE;
        }
    }

    private static int placeInAct(int sign) {
        if (sign == 'd') {
            return PERHAPS_DAYS;
        }
        if (sign == 's') {
            return LETTER_AND_LETTER;
        }
        return sign == 'h' || sign == 'm' ? LETTER_AND_DIGIT : NONE;
    }

    private boolean canAct(int p) {
        int one = text.at(p + 1) - 'a';
        if (text.at(p) == 'd') {
            return true;
        }
        return text.at(p) == 's' ? people.hasTwo(one, text.at(p + 2) - 'a') : people.has(one);
    }

    /** Does the ACT at p, which can be done. */
    private void act(int p) {
        int one = text.at(p + 1) - 'a';
        switch (text.at(p)) {
            case 'h':
                state.hood[one] = text.digitAt(p + 2);
                break;
            case 'm':
                state.street[one] = text.digitAt(p + 2);
                break;
            case 's':
                state.swapHoods(one, text.at(p + 2) - 'a');
                break;
            default:
                walk.passAll(people, rule, state, Math.max(1, text.digitAt(p + 1)));
                break;
        }
    }

    public int undo() {
        return past.takeBack(state) ? past.undos : NONE;
    }

    public int led(int person, int k) {
        if (!people.has(person) || k < 1 || k > BOOK_DAYS) {
            return NONE;
        }
        int entry = k <= state.now ? state.entry(person, k) : State.NOT_COME;
        switch (entry) {
            case State.NOT_HOODED:
                return NOT_SO;
            case State.NOBODY:
                return MISSING;
            case State.NOT_COME:
                return UNKNOWN;
            default:
                return entry;
        }
    }

    public int leads(int person) {
        if (!people.has(person)) {
            return NONE;
        }
        int times = 0;
        int whom = 0;
        int favourite = NONE;
        int most = 0;
        for (int p = 0; p < people.n; p++) {
            int often = 0;
            for (int k = 1; k <= state.bookDays(); k++) {
                if (state.entry(p, k) == person) {
                    often++;
                }
            }
            if (often > most) {
                most = often;
                favourite = p;
            }
            times += often;
            whom |= often > 0 ? 1 << p : 0;
        }
        row.clear();
        row.put(whom);
        row.put(favourite);
        return times;
    }

    public int ahead(int n) {
        if (n < 0 || n > MOST_DAYS) {
            return NONE;
        }
        sketch.copyFrom(state);
        walk.begin();
        walk.passAll(people, rule, sketch, n);
        row.clear();
        for (int p = 0; p < people.n; p++) {
            row.put(walk.leadings[p]);
        }
        row.put(walk.price);
        row.put(walk.learnt);
        return walk.led;
    }

    public int learns(int person, int trade) {
        if (!people.has(person) || !isTrade(trade)) {
            return NONE;
        }
        sketch.copyFrom(state);
        int answer = sketch.hasTrade(person, trade) ? 0 : NOT_SO;
        for (int day = 1; day <= MOST_DAYS && answer == NOT_SO; day++) {
            walk.passAll(people, rule, sketch, 1);
            if (sketch.hasTrade(person, trade)) {
                answer = day;
            }
        }
        row.clear();
        row.put(sketch.lessons[person * TRADES + trade]);
        return answer;
    }

    // ---- tasks

    public int task(int trade, int need) {
        if (!isTrade(trade) || need < 1 || need > 3) {
            return NONE;
        }
        if (tasks.n == Tasks.MOST) {
            return NOT_SO;
        }
        tasks.add(trade, need);
        return tasks.n - 1;
    }

    public int done() {
        if (tasks.n == 0) {
            return NONE;
        }
        tasks.n--;
        return tasks.n;
    }

    public int manned(int hood) {
        if (!isHood(hood)) {
            return NONE;
        }
        tasks.look(state, people.n);
        row.clear();
        row.put(Integer.bitCount(tasks.seeing(hood)));
        return tasks.wanting(tasks.seeing(hood));
    }

    public int bare() {
        tasks.look(state, people.n);
        int days = 0;
        for (int h = 0; h < HOODS; h++) {
            days |= tasks.wanting(tasks.seeing(h)) > 0 ? 1 << h : 0;
        }
        row.clear();
        row.put(tasks.wantingInAll());
        return days;
    }

    public int blindest() {
        int blindest = 0;
        int most = NONE;
        for (int h = 0; h < HOODS; h++) {
            int hooded = Integer.bitCount(state.hoodedOn(h, people.n));
            if (hooded > most) {
                most = hooded;
                blindest = h;
            }
        }
        row.clear();
        row.put(most);
        return blindest;
    }

    public int mends() {
        int n = tasks.fewestMoves(state, people.n);
        if (n != NOT_SO) {
            tellMoves(n);
        }
        return n;
    }

    public int mend() {
        int n = tasks.fewestMoves(state, people.n);
        if (n == NOT_SO) {
            return NOT_SO;
        }
        tellMoves(n);
        if (n > 0) {
            past.remember(state);
        }
        for (int i = 0; i < n; i++) {
            state.hood[tasks.moved[i]] = tasks.movedTo[i];
        }
        return n;
    }

    private void tellMoves(int n) {
        row.clear();
        for (int i = 0; i < n; i++) {
            row.put(tasks.moved[i]);
            row.put(tasks.movedTo[i]);
        }
    }

    public int newcomer(int trades) {
        if (trades < 0 || trades >= TRADE_SETS) {
            return NONE;
        }
        tasks.look(state, people.n);
        int seeing = 0;
        for (int h = 0; h < HOODS; h++) {
            seeing += tasks.wantingWith(tasks.seeing(h), trades);
        }
        int hood = NONE;
        int least = 0;
        for (int h = 0; h < HOODS; h++) {
            int see = tasks.seeing(h);
            int wanting = seeing - tasks.wantingWith(see, trades) + tasks.wanting(see);
            if (hood == NONE || wanting < least) {
                least = wanting;
                hood = h;
            }
        }
        row.clear();
        row.put(least);
        return hood;
    }

    public int needed() {
        tasks.look(state, people.n);
        int wanting = tasks.wantingInAll();
        int needed = 0;
        for (int p = 0; p < people.n; p++) {
            tasks.crowd ^= 1 << p;
            needed |= tasks.wantingInAll() > wanting ? 1 << p : 0;
            tasks.crowd ^= 1 << p;
        }
        return needed;
    }

    public int gain(int one, int other) throws NoSuchElementException {
        if (!people.hasTwo(one, other)) {
            throw new NoSuchElementException();
        }
        tasks.look(state, people.n);
        int wanting = tasks.wantingInAll();
        tasks.move(one, state.hood[one], state.hood[other]);
        tasks.move(other, state.hood[other], state.hood[one]);
        return wanting - tasks.wantingInAll();
    }

    public int ferry(int one, int other, int n) {
        if (!isStreet(one) || !isStreet(other) || n < 1 || n > 3) {
            return NONE;
        }
        int there = state.living(one, 0, people.n) | state.living(other, 0, people.n);
        int days = 0;
        for (int h = 0; h < HOODS; h++) {
            int see = there & ~state.hoodedOn(h, people.n);
            days |= Integer.bitCount(see) >= n ? 1 << h : 0;
        }
        return days;
    }

    // ---- wishes, rings

    public int wish(int one, int other, int same) {
        if (!people.hasTwo(one, other) || same < 0 || same > 1) {
            return NONE;
        }
        if (wishes.n == Wishes.MOST) {
            return NOT_SO;
        }
        wishes.add(one, other, same);
        return wishes.n;
    }

    public int forget() {
        int were = wishes.n;
        wishes.n = 0;
        return were;
    }

    public int met() {
        int which = wishes.metBy(state.hood);
        row.clear();
        row.put(which);
        return Integer.bitCount(which);
    }

    public int please() {
        sketch.copyFrom(state);
        tasks.look(state, people.n);
        int wanting = tasks.wantingInAll();
        int most = Integer.bitCount(wishes.metBy(state.hood));
        int who = NONE;
        int where = NONE;
        for (int p = 0; p < people.n; p++) {
            int own = state.hood[p];
            for (int h = 0; h < HOODS; h++) {
                sketch.hood[p] = h;
                tasks.move(p, own, h);
                int meets = Integer.bitCount(wishes.metBy(sketch.hood));
                if (meets > most && tasks.wantingInAll() <= wanting) {
                    most = meets;
                    who = p;
                    where = h;
                }
                tasks.move(p, h, own);
            }
            sketch.hood[p] = own;
        }
        row.clear();
        row.put(where);
        row.put(most);
        return who;
    }

    public int colours() {
        if (!wishes.canAllBeMet(people.n)) {
            return NOT_SO;
        }
        int fewest = wishes.fewestColours(people.n);
        row.clear();
        for (int p = 0; p < people.n; p++) {
            row.put(wishes.colour[p]);
        }
        return fewest;
    }

    public int friend(int person) {
        if (!people.has(person)) {
            return NOT_SO;
        }
        int least = worthOfNine();
        int friend = NONE;
        for (int p = 0; p < people.n; p++) {
            if (p != person) {
                int at = person * MOST_PEOPLE + p;
                int trust = people.trust[at];
                people.trust[at] = 9;
                int worth = worthOfNine();
                people.trust[at] = trust;
                if (worth < least) {
                    least = worth;
                    friend = p;
                }
            }
        }
        row.clear();
        row.put(least / Guides.LEFT);
        row.put(least % Guides.LEFT);
        return friend;
    }

    /** Worth of GUIDES in DAYS NOW .. NOW + 8: nobody is HOODED twice in them, so that all COST stays below LEFT. */
    private int worthOfNine() {
        int worth = 0;
        for (int i = 0; i < HOODS; i++) {
            walk.guides.find(people, rule, state, state.now + i);
            worth += walk.guides.worth;
        }
        return worth;
    }

    public boolean swap(int one, int other) {
        if (!people.hasTwo(one, other)) {
            return false;
        }
        past.remember(state);
        state.swapHoods(one, other);
        return true;
    }

    public int ring() {
        int n = people.findRing(state.hood);
        if (n == 0) {
            return NOT_SO;
        }
        tellRing(n);
        return n;
    }

    public int turn() {
        int n = people.findRing(state.hood);
        if (n == 0) {
            return NOT_SO;
        }
        tellRing(n);
        past.remember(state);
        people.turnRing(state.hood, n);
        return n;
    }

    private void tellRing(int n) {
        row.clear();
        for (int i = 0; i < n; i++) {
            row.put(people.ring[i]);
        }
    }

    public int rests() {
        sketch.copyFrom(state);
        int rings = 0;
        int n = people.findRing(sketch.hood);
        // Each ring adds two at least to a sum of LIKES that is 81 at most.
        for (int i = 0; i < 81 && n > 0; i++) {
            people.turnRing(sketch.hood, n);
            rings++;
            n = people.findRing(sketch.hood);
        }
        row.clear();
        for (int p = 0; p < people.n; p++) {
            row.put(sketch.hood[p]);
        }
        return rings;
    }

    public int liked() {
        int sum = 0;
        for (int p = 0; p < people.n; p++) {
            sum += people.likes[p * HOODS + state.hood[p]];
        }
        row.clear();
        row.put(people.mostLiked(state.hood));
        return sum;
    }

    // ---- thefts, witnesses

    public int theft(int person, int day) {
        if (!people.has(person) || !isDay(day) || thefts.n == Thefts.MOST) {
            return NONE;
        }
        thefts.add(person, day);
        return thefts.n;
    }

    public int pardon() {
        int were = thefts.n;
        thefts.n = 0;
        return were;
    }

    public int suspects(int theft) {
        if (theft < 0 || theft >= thefts.n) {
            return NONE;
        }
        int who = thefts.suspected(theft, people, state);
        row.clear();
        row.put(who);
        return Integer.bitCount(who);
    }

    public int thief() {
        int all = people.everyone();
        for (int i = 0; i < thefts.n; i++) {
            all &= thefts.suspected(i, people, state);
        }
        int gang = thefts.leastGang(people, state);
        row.clear();
        row.put(gang == NONE ? NONE : Integer.bitCount(gang));
        row.put(gang == NONE ? 0 : gang);
        return all;
    }

    public int witness(int street, int day) {
        if (!isStreet(street) || !isDay(day)) {
            return NONE;
        }
        int near = state.living(street, 1, people.n);
        int hooded = state.hoodedOn(day, people.n);
        row.clear();
        row.put(near & ~hooded);
        row.put(near & hooded);
        return countOf(near, hooded);
    }

    private static int countOf(int near, int hooded) {
        return Integer.bitCount(near) + Integer.bitCount(near & ~hooded);
    }

    public int dark(int street, int v, int n) {
        if (!isStreet(street) || v < 0 || v > 20 || n < 1 || n > MOST_DAYS) {
            return NONE;
        }
        int near = state.living(street, 1, people.n);
        for (int i = 0; i < n; i++) {
            if (countOf(near, state.hoodedOn(state.now + i, people.n)) <= v) {
                return i;
            }
        }
        return NOT_SO;
    }

    // ---- seeds

    public int comes(int seed) {
        if (people.n == MOST_PEOPLE) {
            return NONE;
        }
        int first = nextDraw(seed);
        int second = nextDraw(first);
        int third = nextDraw(second);
        addPerson((first >>> 16) % HOODS, (second >>> 16) % STREETS, (third >>> 16) % TRADE_SETS);
        past.forgetUndos();
        return people.n - 1;
    }

    private static int nextDraw(int r) {
        return r * 1103515245 + 12345;
    }

    // ---- kept

    public boolean keep(int i) {
        if (i < 0 || i >= Past.KEPT) {
            return false;
        }
        past.kept[i].copyFrom(state);
        past.keptCrowd[i] = people.n;
        return true;
    }

    public boolean again(int i) {
        if (i < 0 || i >= Past.KEPT || past.keptCrowd[i] != people.n) {
            return false;
        }
        state.copyFrom(past.kept[i]);
        past.forgetUndos();
        return true;
    }

    public int count(int what) {
        switch (what) {
            case 0:
                return people.n;
            case 1:
                return state.now;
            case 2:
                return state.hoodedOn(state.now, people.n);
            case 3:
                return tasks.n;
            case 4:
                return wishes.n;
            case 5:
                return thefts.n;
            case 6:
                return state.bookDays();
            case 7:
                return past.undos;
            case 8:
                return row.size;
            case 9:
                return text.length;
            default:
                return NONE;
        }
    }

    public int row(int i) throws NoSuchElementException {
        if (i < 0 || i >= row.size) {
            throw new NoSuchElementException();
        }
        return row.numbers[i];
    }

    // ---- signs and bounds

    private static boolean isNinth(int sign) {
        return sign >= '0' && sign <= '8';
    }

    private static boolean isLetter(int sign) {
        return sign >= 'a' && sign <= 'i';
    }

    private static boolean isTrade(int trade) {
        return trade >= 0 && trade < TRADES;
    }

    private static boolean isHood(int hood) {
        return hood >= 0 && hood < HOODS;
    }

    private static boolean isStreet(int street) {
        return street >= 0 && street < STREETS;
    }

    private static boolean isDay(int day) {
        return day >= 0 && day <= LAST_DAY;
    }

    private static int between(int v, int most) {
        return Math.max(0, Math.min(v, most));
    }

    private static int streetsApart(int one, int other) {
        int way = Math.abs(one - other);
        return Math.min(way, STREETS - way);
    }

    /** THE TEXT. */
    private static final class Text {
        private static final int MOST = 80;

        private final int[] signs = new int[MOST];
        private int length = 0;

        private boolean hasRoomFor(int more) {
            return length + more <= MOST;
        }

        private void add(int sign) {
            if (length < MOST) {
                signs[length] = sign;
                length++;
            }
        }

        private int at(int p) {
            return p >= 0 && p < length ? signs[p] : NONE;
        }

        private int digitAt(int p) {
            int sign = at(p);
            return sign >= '0' && sign <= '9' ? sign - '0' : NONE;
        }

        /** Whether a LINE or an ACT begins at p. */
        private boolean startsPart(int p) {
            return p == 0 || at(p - 1) == ';';
        }

        /** Where the first sign is that can't stand in a text of n digits, or NONE. */
        private int digitsFault(int n) {
            for (int p = 0; p < n; p++) {
                if (digitAt(p) == NONE) {
                    return p;
                }
            }
            return length > n ? n : NONE;
        }
    }

    /** ROW. */
    private static final class Row {
        private static final int MOST = 12;

        private final int[] numbers = new int[MOST];
        private int size = 0;

        private void clear() {
            size = 0;
        }

        private void put(int number) {
            if (size < MOST) {
                numbers[size] = number;
                size++;
            }
        }
    }

    /** PEOPLE, and what is not undone of them: TRUST and LIKES. */
    private static final class People {
        private static final int LONGEST_RING = 4;

        private final int[] trust = new int[MOST_PEOPLE * MOST_PEOPLE];
        private final int[] likes = new int[MOST_PEOPLE * HOODS];
        private final int[] ring = new int[LONGEST_RING];
        private final int[] most = new int[CROWDS];
        private int n = 0;

        private People() {
            for (int i = 0; i < MOST_PEOPLE * MOST_PEOPLE; i++) {
                trust[i] = 1;
            }
        }

        private boolean has(int person) {
            return person >= 0 && person < n;
        }

        private boolean hasTwo(int one, int other) {
            return has(one) && has(other) && one != other;
        }

        private int everyone() {
            return (1 << n) - 1;
        }

        /** How many the shortest ring has, 0 if there is none; the ring is in ring. */
        private int findRing(int[] hood) {
            for (int length = 2; length <= LONGEST_RING; length++) {
                for (int p = 0; p < n; p++) {
                    ring[0] = p;
                    if (goesRound(hood, 1, length)) {
                        return length;
                    }
                }
            }
            return 0;
        }

        /** Puts those from place at on behind the ring's first ones, if it can be. */
        private boolean goesRound(int[] hood, int at, int length) {
            if (at >= length) {
                return wants(hood, ring[length - 1], ring[0]);
            }
            for (int p = ring[0] + 1; p < n; p++) {
                if (!isInRing(p, at) && wants(hood, ring[at - 1], p)) {
                    ring[at] = p;
                    if (goesRound(hood, at + 1, length)) {
                        return true;
                    }
                }
            }
            return false;
        }

        private boolean isInRing(int person, int length) {
            for (int i = 0; i < length; i++) {
                if (ring[i] == person) {
                    return true;
                }
            }
            return false;
        }

        private boolean wants(int[] hood, int one, int other) {
            return likes[one * HOODS + hood[other]] > likes[one * HOODS + hood[one]];
        }

        private void turnRing(int[] hood, int length) {
            int first = hood[ring[0]];
            for (int i = 0; i + 1 < length; i++) {
                hood[ring[i]] = hood[ring[i + 1]];
            }
            hood[ring[length - 1]] = first;
        }

        /** The most that HOODS can be liked; most[set] is it for the first ones, if they have the set's HOODS. */
        private int mostLiked(int[] hood) {
            most[0] = 0;
            for (int set = 1; set <= everyone(); set++) {
                int person = Integer.bitCount(set) - 1;
                int best = 0;
                for (int p = 0; p < n; p++) {
                    if ((set >> p & 1) != 0) {
                        best = Math.max(best, most[set ^ 1 << p] + likes[person * HOODS + hood[p]]);
                    }
                }
                most[set] = best;
            }
            return most[everyone()];
        }
    }

    /** What is undone and kept: NOW, HOODS, STREETS, TRADES, LESSONS, THE BOOK. */
    private static final class State {
        private static final int NOBODY = 9;
        private static final int NOT_HOODED = 10;
        private static final int NOT_COME = 11;
        private static final int ENTRY_BITS = 4;

        private final int[] hood = new int[MOST_PEOPLE];
        private final int[] street = new int[MOST_PEOPLE];
        private final int[] trades = new int[MOST_PEOPLE];
        private final int[] lessons = new int[MOST_PEOPLE * TRADES];
        // A DAY's entries of all PEOPLE lie in one long, so that a copy stays small.
        private final long[] book = new long[BOOK_DAYS];
        private int now = 0;

        private void copyFrom(State other) {
            System.arraycopy(other.hood, 0, hood, 0, MOST_PEOPLE);
            System.arraycopy(other.street, 0, street, 0, MOST_PEOPLE);
            System.arraycopy(other.trades, 0, trades, 0, MOST_PEOPLE);
            System.arraycopy(other.lessons, 0, lessons, 0, MOST_PEOPLE * TRADES);
            System.arraycopy(other.book, 0, book, 0, BOOK_DAYS);
            now = other.now;
        }

        private int hoodedOn(int day, int n) {
            int who = 0;
            for (int p = 0; p < n; p++) {
                who |= hood[p] == day % HOODS ? 1 << p : 0;
            }
            return who;
        }

        /** Who lives at most so many STREETS from one. */
        private int living(int at, int apart, int n) {
            int who = 0;
            for (int p = 0; p < n; p++) {
                who |= streetsApart(street[p], at) <= apart ? 1 << p : 0;
            }
            return who;
        }

        private void swapHoods(int one, int other) {
            int hoodOfOne = hood[one];
            hood[one] = hood[other];
            hood[other] = hoodOfOne;
        }

        private boolean hasTrade(int person, int trade) {
            return (trades[person] >> trade & 1) != 0;
        }

        private int openLessons(int person) {
            int sum = 0;
            for (int t = 0; t < TRADES; t++) {
                sum += hasTrade(person, t) ? 0 : lessons[person * TRADES + t];
            }
            return sum;
        }

        /** One LESSON more: how many TRADES are learnt by it. */
        private int learn(int person, int guide) {
            int open = trades[guide] & ~trades[person];
            for (int t = 0; t < TRADES; t++) {
                if ((open >> t & 1) != 0) {
                    lessons[person * TRADES + t]++;
                    if (lessons[person * TRADES + t] < 3) {
                        return 0;
                    }
                    trades[person] |= 1 << t;
                    return 1;
                }
            }
            return 0;
        }

        // NOW moves only together with THE BOOK, so that it tells how many DAYS are in it.
        private int bookDays() {
            return Math.min(now, BOOK_DAYS);
        }

        private int entry(int person, int daysAgo) {
            return (int) (book[pageOf(daysAgo)] >>> (person * ENTRY_BITS)) & 15;
        }

        // floorMod, so that there is a page for every int that NOW could come to.
        private int pageOf(int daysAgo) {
            return Math.floorMod(now - daysAgo, BOOK_DAYS);
        }

        private void openPage(int n) {
            long page = 0;
            for (int p = MOST_PEOPLE - 1; p >= 0; p--) {
                page = page << ENTRY_BITS | (p < n ? NOT_HOODED : NOT_COME);
            }
            book[pageOf(0)] = page;
        }

        private void write(int person, int entry) {
            long change = NOT_HOODED ^ entry;
            book[pageOf(0)] ^= change << (person * ENTRY_BITS);
        }
    }

    /** States that can come back. */
    private static final class Past {
        private static final int MOST_UNDOS = 12;
        private static final int KEPT = 2;

        private final State[] before = new State[MOST_UNDOS];
        private final State[] kept = new State[KEPT];
        private final int[] keptCrowd = new int[KEPT];
        private int next = 0;
        private int undos = 0;

        private Past() {
            for (int i = 0; i < MOST_UNDOS; i++) {
                before[i] = new State();
            }
            for (int i = 0; i < KEPT; i++) {
                kept[i] = new State();
                keptCrowd[i] = NONE;
            }
        }

        private void remember(State state) {
            before[next].copyFrom(state);
            next = (next + 1) % MOST_UNDOS;
            undos = Math.min(undos + 1, MOST_UNDOS);
        }

        private boolean takeBack(State state) {
            if (undos == 0) {
                return false;
            }
            undos--;
            next = (next + MOST_UNDOS - 1) % MOST_UNDOS;
            state.copyFrom(before[next]);
            return true;
        }

        private void forgetUndos() {
            undos = 0;
        }
    }

    /** THE RULE, held so that a thing stands ahead of what is done with it: 3 + t as 3, t, +. */
    private static final class Rule {
        private static final int MOST = 40;
        private static final int DEEPEST = 4;
        private static final int THINGS = 7;
        private static final int DEAREST = 99;
        /** Above all signs, so that none of a text is taken for it. */
        private static final int NEGATE = 256;
        private static final int OPEN = '(';

        // A number as it is, thing x as -1 - x, a sign that does something as -sign (all below -THINGS).
        private final int[] code = new int[MOST];
        private final int[] draft = new int[MOST];
        private final int[] waiting = new int[MOST];
        private final int[] stack = new int[MOST];
        private final int[] things = new int[THINGS];
        private final boolean[] compared = new boolean[DEEPEST + 1];
        private int size = 0;
        private int drafted = 0;
        private int waits = 0;
        private int depth = 0;
        private int digits = 0;
        private boolean wantsThing = true;

        /** Where the first sign is that can't stand in THE RULE, or NONE: then it is THE RULE. */
        private int read(Text text) {
            begin();
            int looked = Math.min(text.length, MOST);
            for (int p = 0; p < looked; p++) {
                boolean stands = wantsThing ? takesAhead(text.at(p)) : takesBehind(text.at(p));
                if (!stands) {
                    return p;
                }
            }
            if (text.length > MOST) {
                return MOST;
            }
            if ((wantsThing || depth > 0) && text.length > 0) {
                return text.length;
            }
            putWaiting(0);
            System.arraycopy(draft, 0, code, 0, MOST);
            size = drafted;
            return NONE;
        }

        private void begin() {
            drafted = 0;
            waits = 0;
            depth = 0;
            digits = 0;
            wantsThing = true;
            compared[0] = false;
        }

        /** A sign where a thing can begin: whether it can stand there. */
        private boolean takesAhead(int sign) {
            if (sign == '-') {
                hold(NEGATE);
                return true;
            }
            if (sign == OPEN) {
                return opens();
            }
            if (sign >= '0' && sign <= '9') {
                put(sign - '0');
                digits = 1;
            } else if (thingOf(sign) != NONE) {
                put(-1 - thingOf(sign));
                digits = 0;
            } else {
                return false;
            }
            wantsThing = false;
            return true;
        }

        private boolean opens() {
            if (depth == DEEPEST) {
                return false;
            }
            hold(OPEN);
            depth++;
            compared[depth] = false;
            return true;
        }

        /** A sign behind a thing: whether it can stand there. */
        private boolean takesBehind(int sign) {
            if (sign >= '0' && sign <= '9') {
                return lengthens(sign - '0');
            }
            if (sign == ')') {
                return closes();
            }
            int strength = strengthOf(sign);
            if (strength == 0 || strength == 1 && compared[depth]) {
                return false;
            }
            if (strength == 1) {
                compared[depth] = true;
            }
            putWaiting(strength);
            hold(sign);
            wantsThing = true;
            return true;
        }

        private boolean lengthens(int digit) {
            if (digits == 0 || digits == 3 || drafted == 0) {
                return false;
            }
            draft[drafted - 1] = draft[drafted - 1] * 10 + digit;
            digits++;
            return true;
        }

        private boolean closes() {
            if (depth == 0) {
                return false;
            }
            putWaiting(0);
            waits = Math.max(0, waits - 1);
            depth--;
            digits = 0;
            return true;
        }

        private void put(int token) {
            if (drafted < MOST) {
                draft[drafted] = token;
                drafted++;
            }
        }

        private void hold(int sign) {
            if (waits < MOST) {
                waiting[waits] = sign;
                waits++;
            }
        }

        /** What waits and binds at least so strongly is done now, back to an open ( at most. */
        private void putWaiting(int strength) {
            while (waits > 0 && waiting[waits - 1] != OPEN && strengthOf(waiting[waits - 1]) >= strength) {
                waits--;
                put(-waiting[waits]);
            }
        }

        private static int strengthOf(int sign) {
            switch (sign) {
                case '<':
                case '>':
                case '=':
                    return 1;
                case '+':
                case '-':
                    return 2;
                case '*':
                case '/':
                    return 3;
                case NEGATE:
                    return 4;
                default:
                    return 0;
            }
        }

        private static int thingOf(int sign) {
            switch (sign) {
                case 't':
                    return 0;
                case 'u':
                    return 1;
                case 'r':
                    return 2;
                case 'k':
                    return 3;
                case 'd':
                    return 4;
                case 'i':
                    return 5;
                case 'j':
                    return 6;
                default:
                    return NONE;
            }
        }

        /** Things of one that is HOODED and one that SEES: ahead of price(). */
        private void bringThings(People people, State state, int first, int second, int day) {
            things[0] = people.trust[first * MOST_PEOPLE + second];
            things[1] = people.trust[second * MOST_PEOPLE + first];
            things[2] = streetsApart(state.street[first], state.street[second]);
            things[3] = Integer.bitCount(state.trades[second] & ~state.trades[first]);
            things[4] = day % HOODS;
            things[5] = first;
            things[6] = second;
        }

        /** COST. */
        private int price() {
            if (size == 0) {
                return between(9 - things[0] + things[2], DEAREST);
            }
            int top = 0;
            for (int i = 0; i < size; i++) {
                int token = code[i];
                if (token >= -THINGS) {
                    stack[top] = token >= 0 ? token : things[-1 - token];
                    top++;
                } else if (token == -NEGATE && top >= 1) {
                    stack[top - 1] = -stack[top - 1];
                } else if (top >= 2) {
                    top--;
                    stack[top - 1] = joined(-token, stack[top - 1], stack[top]);
                }
            }
            return between(stack[0], DEAREST);
        }

        private static int joined(int sign, int one, int other) {
            switch (sign) {
                case '<':
                    return one < other ? 1 : 0;
                case '>':
                    return one > other ? 1 : 0;
                case '=':
                    return one == other ? 1 : 0;
                case '+':
                    return one + other;
                case '-':
                    return one - other;
                case '*':
                    return one * other;
                default:
                    return other == 0 ? 0 : one / other;
            }
        }
    }

    /** GUIDES of a DAY. */
    private static final class Guides {
        /** What one that is led by nobody counts: more than the COST of all others together. */
        private static final int LEFT = 1000;

        private final int[] hooded = new int[MOST_PEOPLE];
        private final int[] best = new int[MOST_PEOPLE];
        private final int[] chosen = new int[MOST_PEOPLE];
        private final int[] leading = new int[MOST_PEOPLE];
        private final int[] prices = new int[MOST_PEOPLE * MOST_PEOPLE];
        private final int[] atLeast = new int[MOST_PEOPLE + 1];
        private int n = 0;
        private int crowd = 0;
        private int worth = 0;

        private void find(People people, Rule rule, State state, int day) {
            crowd = people.n;
            n = 0;
            for (int p = 0; p < crowd; p++) {
                leading[p] = 0;
                if (state.hood[p] == day % HOODS) {
                    hooded[n] = p;
                    n++;
                }
            }
            for (int i = 0; i < n; i++) {
                setPrices(people, rule, state, i, day);
            }
            atLeast[n] = 0;
            for (int i = n - 1; i >= 0; i--) {
                atLeast[i] = atLeast[i + 1] + cheapest(i);
            }
            worth = n * LEFT + 1;
            choose(0, 0);
        }

        private void setPrices(People people, Rule rule, State state, int i, int day) {
            int first = hooded[i];
            for (int p = 0; p < crowd; p++) {
                int price = NONE;
                if (state.hood[p] != day % HOODS && people.trust[first * MOST_PEOPLE + p] > 0) {
                    rule.bringThings(people, state, first, p, day);
                    price = rule.price();
                }
                prices[i * MOST_PEOPLE + p] = price;
            }
        }

        private int cheapest(int i) {
            int least = LEFT;
            for (int p = 0; p < crowd; p++) {
                int price = prices[i * MOST_PEOPLE + p];
                if (price != NONE && price < least) {
                    least = price;
                }
            }
            return least;
        }

        /** Tries guides of the i-th and those behind it in the order of rows, so that of equal ones the first stays. */
        private void choose(int i, int sum) {
            if (sum + atLeast[i] >= worth) {
                return;
            }
            if (i >= n) {
                worth = sum;
                System.arraycopy(chosen, 0, best, 0, n);
                return;
            }
            for (int p = 0; p < crowd; p++) {
                int price = prices[i * MOST_PEOPLE + p];
                if (price != NONE && leading[p] < 2) {
                    leading[p]++;
                    chosen[i] = p;
                    choose(i + 1, sum + price);
                    leading[p]--;
                }
            }
            chosen[i] = NONE;
            choose(i + 1, sum + LEFT);
        }

        private int nobody() {
            return worth / LEFT;
        }

        private int price() {
            return worth % LEFT;
        }

        /** Who is led by nobody. */
        private int unled() {
            int who = 0;
            for (int i = 0; i < n; i++) {
                who |= best[i] == NONE ? 1 << hooded[i] : 0;
            }
            return who;
        }

        /** Who could be led by none, if it alone had to be led. */
        private int withoutAny() {
            int who = 0;
            for (int i = 0; i < n; i++) {
                who |= cheapest(i) == LEFT ? 1 << hooded[i] : 0;
            }
            return who;
        }
    }

    /** DAYS that go by in a state, and what they come to together. */
    private static final class Walk {
        private final Guides guides = new Guides();
        private final int[] leadings = new int[MOST_PEOPLE];
        private int led = 0;
        private int price = 0;
        private int learnt = 0;

        private void begin() {
            led = 0;
            price = 0;
            learnt = 0;
            Arrays.fill(leadings, 0);
        }

        private void passAll(People people, Rule rule, State state, int n) {
            for (int i = 0; i < n; i++) {
                guides.find(people, rule, state, state.now);
                state.openPage(people.n);
                followGuides(state);
                price += guides.price();
                state.now++;
            }
        }

        private void followGuides(State state) {
            for (int i = 0; i < guides.n; i++) {
                int person = guides.hooded[i];
                int guide = guides.best[i];
                if (guide == NONE) {
                    state.write(person, State.NOBODY);
                } else {
                    state.write(person, guide);
                    learnt += state.learn(person, guide);
                    leadings[guide]++;
                    led++;
                }
            }
        }
    }

    /** TASKS, and what is wanting of them. */
    private static final class Tasks {
        private static final int MOST = 6;
        private static final int MOST_MOVES = 2;

        private final int[] trade = new int[MOST];
        private final int[] need = new int[MOST];
        private final int[] needOf = new int[TRADE_SETS];
        private final int[] able = new int[TRADE_SETS];
        private final int[] known = new int[CROWDS];
        private final int[] hooded = new int[HOODS];
        private final int[] moved = new int[MOST_MOVES];
        private final int[] movedTo = new int[MOST_MOVES];
        private int n = 0;
        private int crowd = 0;
        private int wanted = 0;

        private void add(int newTrade, int newNeed) {
            if (n < MOST) {
                trade[n] = newTrade;
                need[n] = newNeed;
                n++;
            }
        }

        /** Takes in who is there: ahead of each question that asks what is wanting. */
        private void look(State state, int people) {
            crowd = (1 << people) - 1;
            for (int h = 0; h < HOODS; h++) {
                hooded[h] = state.hoodedOn(h, people);
            }
            Arrays.fill(needOf, 0);
            Arrays.fill(able, 0);
            Arrays.fill(known, NONE);
            wanted = 0;
            for (int i = 0; i < n; i++) {
                needOf[1 << trade[i]] += need[i];
                wanted |= 1 << trade[i];
            }
            for (int p = 0; p < people; p++) {
                for (int t = 0; t < TRADES; t++) {
                    able[1 << t] |= state.hasTrade(p, t) ? 1 << p : 0;
                }
            }
            for (int set = 1; set < TRADE_SETS; set++) {
                int first = set & -set;
                if (first != set) {
                    needOf[set] = needOf[first] + needOf[set ^ first];
                    able[set] = able[first] | able[set ^ first];
                }
            }
        }

        private int seeing(int day) {
            return crowd & ~hooded[day];
        }

        private int wanting(int see) {
            if (known[see] == NONE) {
                known[see] = wantingWith(see, 0);
            }
            return known[see];
        }

        /**
         * What is wanting, if some see and one more with TRADES of its own (0: nobody more). By Hall's theorem
         * it is the most by which the NEED of some TRADES is above those who have one of them.
         */
        private int wantingWith(int see, int trades) {
            int most = 0;
            for (int set = wanted; set > 0; set = (set - 1) & wanted) {
                int hands = Integer.bitCount(able[set] & see) + ((set & trades) != 0 ? 1 : 0);
                most = Math.max(most, needOf[set] - hands);
            }
            return most;
        }

        private int wantingInAll() {
            int sum = 0;
            for (int h = 0; h < HOODS; h++) {
                sum += wanting(seeing(h));
            }
            return sum;
        }

        private boolean allManned() {
            for (int h = 0; h < HOODS; h++) {
                if (wanting(seeing(h)) > 0) {
                    return false;
                }
            }
            return true;
        }

        private void move(int person, int from, int to) {
            hooded[from] ^= 1 << person;
            hooded[to] ^= 1 << person;
        }

        /** How few must have another HOOD, so that all days are MANNED: who is in moved, HOODS in movedTo. */
        private int fewestMoves(State state, int people) {
            look(state, people);
            for (int moves = 0; moves <= MOST_MOVES; moves++) {
                if (mannedBy(state, 0, 0, moves, people)) {
                    return moves;
                }
            }
            return NOT_SO;
        }

        /** Whether moves from place at on, of those from person first on, do it: the least row is tried first. */
        private boolean mannedBy(State state, int first, int at, int moves, int people) {
            if (at >= moves) {
                return allManned();
            }
            for (int p = first; p < people; p++) {
                int own = state.hood[p];
                for (int h = 0; h < HOODS; h++) {
                    if (h != own) {
                        moved[at] = p;
                        movedTo[at] = h;
                        move(p, own, h);
                        boolean does = mannedBy(state, p + 1, at + 1, moves, people);
                        move(p, h, own);
                        if (does) {
                            return true;
                        }
                    }
                }
            }
            return false;
        }
    }

    /** WISHES. */
    private static final class Wishes {
        private static final int MOST = 12;

        private final int[] one = new int[MOST];
        private final int[] other = new int[MOST];
        private final int[] same = new int[MOST];
        private final int[] colour = new int[MOST_PEOPLE];
        private final int[] kin = new int[MOST_PEOPLE];
        private int n = 0;

        private void add(int first, int second, int sameHood) {
            if (n < MOST) {
                one[n] = first;
                other[n] = second;
                same[n] = sameHood;
                n++;
            }
        }

        private int metBy(int[] hood) {
            int which = 0;
            for (int i = 0; i < n; i++) {
                which |= isMet(hood, i) ? 1 << i : 0;
            }
            return which;
        }

        private boolean isMet(int[] hood, int i) {
            return (hood[one[i]] == hood[other[i]]) == (same[i] == 1);
        }

        /** Joins all who must have one HOOD and looks whether two of them wish two: nine HOODS are enough else. */
        private boolean canAllBeMet(int people) {
            for (int p = 0; p < people; p++) {
                kin[p] = p;
            }
            for (int i = 0; i < n; i++) {
                if (same[i] == 1) {
                    join(kin[one[i]], kin[other[i]], people);
                }
            }
            for (int i = 0; i < n; i++) {
                if (!isMet(kin, i)) {
                    return false;
                }
            }
            return true;
        }

        private void join(int first, int second, int people) {
            for (int p = 0; p < people; p++) {
                if (kin[p] == second) {
                    kin[p] = first;
                }
            }
        }

        /** How few HOODS do, if they can; the least row of them is in colour. */
        private int fewestColours(int people) {
            for (int most = 0; most <= HOODS; most++) {
                if (coloursFrom(0, 0, most, people)) {
                    return most;
                }
            }
            return NOT_SO;
        }

        /** A new HOOD is always the next one: another would not make the row less. */
        private boolean coloursFrom(int person, int used, int most, int people) {
            if (person >= people) {
                return true;
            }
            int last = Math.min(used, most - 1);
            for (int c = 0; c <= last; c++) {
                colour[person] = c;
                if (fits(person) && coloursFrom(person + 1, Math.max(used, c + 1), most, people)) {
                    return true;
                }
            }
            return false;
        }

        private boolean fits(int person) {
            for (int i = 0; i < n; i++) {
                if (Math.max(one[i], other[i]) == person && !isMet(colour, i)) {
                    return false;
                }
            }
            return true;
        }
    }

    /** Thefts that were told. */
    private static final class Thefts {
        private static final int MOST = 10;
        private static final int FARTHEST = 2;

        private final int[] robbed = new int[MOST];
        private final int[] when = new int[MOST];
        private final int[] who = new int[MOST];
        private int n = 0;

        private void add(int person, int day) {
            if (n < MOST) {
                robbed[n] = person;
                when[n] = day;
                n++;
            }
        }

        private int suspected(int theft, People people, State state) {
            int victim = robbed[theft];
            int hooded = state.hoodedOn(when[theft], people.n);
            int near = state.living(state.street[victim], FARTHEST, people.n);
            int able = near & ~hooded & ~(1 << victim);
            if ((hooded >> victim & 1) != 0) {
                for (int p = 0; p < people.n; p++) {
                    if (people.trust[victim * MOST_PEOPLE + p] == 0) {
                        able &= ~(1 << p);
                    }
                }
            }
            return able;
        }

        /** The fewest of whom each theft has one, of as few the least; NONE: some theft has none. */
        private int leastGang(People people, State state) {
            for (int i = 0; i < n; i++) {
                who[i] = suspected(i, people, state);
            }
            int gang = NONE;
            int fewest = MOST_PEOPLE + 1;
            for (int set = 0; set <= people.everyone(); set++) {
                int size = Integer.bitCount(set);
                if (size < fewest && explainsAll(set)) {
                    fewest = size;
                    gang = set;
                }
            }
            return gang;
        }

        private boolean explainsAll(int set) {
            for (int i = 0; i < n; i++) {
                if ((who[i] & set) == 0) {
                    return false;
                }
            }
            return true;
        }
    }
}
