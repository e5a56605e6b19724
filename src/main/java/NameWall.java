import java.util.NoSuchElementException;

/** The wall of names; DOC.md says what each call answers, and its words in capitals stand here too. */
public final class NameWall {
    public static final int NONE = -1;
    public static final int HIDDEN = -1000000;

    private static final int MOST_BYTES = 240;
    private static final int MOST_NAMES = 8;
    private static final int MOST_TIES = 10;
    private static final int MOST_LAWS = 4;
    private static final int MOST_NESTED = 6;
    private static final int MOST_DENTS = 12;
    private static final int MOST_ACTS = 40;
    private static final int MOST_LOGGED = 60;
    private static final int MOST_EVENINGS = 60;
    private static final int LAST_DAY = 9999;
    private static final int MOST_ALONE = 200;
    private static final int MOST_LOSS = 99;
    private static final int MOST_DEPTH = 99;

    // What a text's sign is behind its last byte.
    private static final int NO_SIGN = -1;

    // The SQUARE and a NAME are rows in the order of their letters, which is also the order of square() and name().
    private static final String SQUARE_LETTERS = "rchd";
    private static final int[] SQUARE_FIRST = {2, 40, 4, 2};
    private static final int[] SQUARE_LOW = {0, 1, 1, 1};
    private static final int[] SQUARE_HIGH = {9, 99, 6, 4};
    private static final int RAIN = 0;
    private static final int CUT = 1;
    private static final int HOURS = 2;
    private static final int DROWN = 3;
    private static final int SQUARE_ITEMS = 4;

    private static final String NAME_LETTERS = "vkgpwi";
    private static final int[] NAME_FIRST = {3, 0, 0, 5, 1, 20};
    private static final int[] NAME_LOW = {0, 0, 0, 0, 0, 1};
    private static final int[] NAME_HIGH = {9, 3, 4, 99, 9, 99};
    private static final int VOICE = 0;
    private static final int KIND = 1;
    private static final int LIKE = 2;
    private static final int PENCE = 3;
    private static final int WAGE = 4;
    private static final int DEPTH = 5;
    private static final int NAME_ITEMS = 6;

    private static final String TIE_LETTERS = "ab";
    private static final int[] TIE_FIRST = {0, 1};
    private static final int[] TIE_LOW = {0, 0};
    private static final int[] TIE_HIGH = {7, 7};
    private static final int TIE_ITEMS = 2;

    private final Tape tape = new Tape();
    private final CityReader cityReader = new CityReader();
    private final LawReader lawReader = new LawReader();
    private final City draft = new City();
    private final Wall wall = new Wall();
    private final Past past = new Past();
    private final Dents dents = new Dents();
    private final Plans plans = new Plans();
    private final Odds chances = new Odds();
    private int fogChance = 0;
    private int coldChance = 0;
    private long drawn = 0;

    public NameWall() {
    }

    public int feed(int a, int b, int c, int d, int e) {
        int more = Tape.bytesIn(a) + Tape.bytesIn(b) + Tape.bytesIn(c) + Tape.bytesIn(d) + Tape.bytesIn(e);
        if (tape.length + more > MOST_BYTES) {
            return NONE;
        }
        tape.add(a);
        tape.add(b);
        tape.add(c);
        tape.add(d);
        tape.add(e);
        return tape.length;
    }

    public boolean end(int n) {
        if (isOutside(n, 0, tape.length)) {
            return false;
        }
        tape.length = n;
        return true;
    }

    public int fault(int sort) {
        if (sort == 0) {
            return cityReader.read(tape, draft);
        }
        return sort == 1 ? lawReader.read(tape) : -2;
    }

    public int text(int sort) {
        if (sort == 0 && cityReader.read(tape, draft) == NONE) {
            cityReader.read(tape, wall.city);
            beginCity();
            return wall.city.names;
        }
        if (sort == 1 && wall.laws.count < MOST_LAWS && lawReader.read(tape) == NONE) {
            tape.length = 0;
            return wall.laws.add(lawReader.code, lawReader.length);
        }
        return NONE;
    }

    private void beginCity() {
        tape.length = 0;
        wall.now.begin(wall.city);
        past.clear();
        dents.count = 0;
    }

    public int square(int what) {
        return hasNoCity() || isOutside(what, 0, SQUARE_ITEMS - 1) ? NONE : wall.city.square[what];
    }

    public int name(int name, int what) throws NoSuchElementException {
        if (!wall.isName(name) || isOutside(what, 0, 10)) {
            throw new NoSuchElementException("no such name, or nothing such to know of it");
        }
        Day now = wall.now;
        switch (what) {
            case PENCE:
                return now.pence[name];
            case DEPTH:
                return now.depth[name];
            case 6:
                return now.whom[name];
            case 7:
                return now.hour[name];
            case 8:
                return has(now.hoarse, name) ? 1 : 0;
            case 9:
                return wall.lossNow(name, wall.heard());
            case 10:
                return wall.gets(name, wall.heard());
            default:
                return wall.city.given[name][what];
        }
    }

    public boolean law(int law) {
        if (isOutside(law, NONE, wall.laws.count - 1)) {
            return false;
        }
        wall.laws.holding = law;
        return true;
    }

    public int tied(int one, int other) {
        if (!wall.isName(one) || !wall.isName(other)) {
            return NONE;
        }
        return has(wall.city.friends[one], other) ? 1 : 0;
    }

    public int shout(int name, int other, int hour) {
        if (!wall.stands(name) || !wall.stands(other) || name == other || wall.hasShouted(name) || !isHour(hour)) {
            return NONE;
        }
        int wage = wall.wage(name, other);
        if (wall.now.pence[other] < wage) {
            return NONE;
        }
        past.remember(wall.now);
        wall.now.pence[other] -= wage;
        wall.now.pence[name] += wage;
        wall.now.whom[name] = other;
        wall.now.hour[name] = hour;
        return wall.now.pence[other];
    }

    public boolean fog(boolean is) {
        if (hasNoCity() || wall.now.fog == is) {
            return false;
        }
        past.remember(wall.now);
        wall.now.fog = is;
        return true;
    }

    public boolean hoarse(int name) {
        if (!wall.stands(name) || has(wall.now.hoarse, name)) {
            return false;
        }
        past.remember(wall.now);
        wall.now.hoarse |= 1 << name;
        return true;
    }

    public int evening(int n) {
        if (cannotPass(n)) {
            return NONE;
        }
        for (int i = 0; i < n; i++) {
            past.remember(wall.now);
            wall.passEvening(past);
        }
        return wall.now.day;
    }

    private boolean cannotPass(int days) {
        return hasNoCity() || isOutside(days, 1, MOST_EVENINGS) || wall.now.day + days > LAST_DAY;
    }

    public boolean fogs(int v) {
        if (isOutside(v, 0, 99) || v == fogChance) {
            return false;
        }
        fogChance = v;
        return true;
    }

    public boolean colds(int v) {
        if (isOutside(v, 0, 99) || v == coldChance) {
            return false;
        }
        coldChance = v;
        return true;
    }

    public int centuries(int n, long seed) {
        if (cannotPass(n)) {
            return NONE;
        }
        drawn = seed;
        for (int i = 0; i < n; i++) {
            past.remember(wall.now);
            drawWeather();
            drawShouts();
            wall.passEvening(past);
        }
        return wall.now.day;
    }

    private void drawWeather() {
        if (draw(100) < fogChance) {
            wall.now.fog = true;
        }
        for (int name = 0; name < MOST_NAMES; name++) {
            if (wall.stands(name) && draw(100) < coldChance) {
                wall.now.hoarse |= 1 << name;
            }
        }
    }

    private void drawShouts() {
        int standing = wall.standing();
        for (int name = 0; name < MOST_NAMES; name++) {
            int friends = wall.city.friends[name] & standing;
            if (wall.stands(name) && !wall.hasShouted(name) && friends != 0) {
                wall.now.whom[name] = lowest(friends);
                wall.now.hour[name] = draw(wall.city.square[HOURS]);
            }
        }
    }

    private int draw(int below) {
        drawn = drawn * 6364136223846793005L + 1442695040888963407L;
        return below < 1 ? 0 : (int) ((drawn >>> 33) % below);
    }

    public int undo() {
        return past.takeBack(wall.now) ? past.acts : NONE;
    }

    public int log(int i, int what) {
        return past.read(wall.now, i, what);
    }

    public int alone(int name) {
        if (!wall.stands(name)) {
            return NONE;
        }
        int depth = wall.now.depth[name];
        for (int evening = 1; evening <= MOST_ALONE; evening++) {
            int day = wall.now.day + evening - 1;
            depth = wall.held(depth - wall.loss(name, depth, day, 0));
            if (depth == 0) {
                return evening;
            }
        }
        return NONE;
    }

    public int keep(int names, int what) {
        if (names == 0 || (names & ~wall.standing()) != 0 || isOutside(what, 0, 1)) {
            return NONE;
        }
        if (Integer.bitCount(wall.standing()) > Plans.MOST_SHOUTERS) {
            return HIDDEN;
        }
        if (!plans.findKeep(wall, names)) {
            return NONE;
        }
        return what == 0 ? plans.digits : plans.wages;
    }

    public int ring(int names) {
        if ((names & ~wall.standing()) != 0 || isOutside(Integer.bitCount(names), 2, Plans.MOST_SHOUTERS)) {
            return NONE;
        }
        return plans.findRing(wall, names);
    }

    public int price(int name, int what) {
        if (!wall.stands(name) || isOutside(what, 0, 1) || !plans.findPrice(wall, name)) {
            return NONE;
        }
        return what == 0 ? plans.wages : plans.helpers;
    }

    public int packed() {
        return hasNoCity() ? NONE : wall.hoursNeeded();
    }

    public int weak() {
        if (hasNoCity()) {
            return NONE;
        }
        int standing = wall.standing();
        int weak = 0;
        for (int name = 0; name < MOST_NAMES; name++) {
            if (has(standing, name) && Integer.bitCount(wall.city.friends[name] & standing) == 1) {
                weak |= 1 << name;
            }
        }
        return weak;
    }

    public int parts() {
        return hasNoCity() ? NONE : wall.city.partsOf(wall.standing());
    }

    public int bridges() {
        if (hasNoCity()) {
            return NONE;
        }
        int standing = wall.standing();
        int parts = wall.city.partsOf(standing);
        int bridges = 0;
        for (int name = 0; name < MOST_NAMES; name++) {
            if (has(standing, name) && wall.city.partsOf(standing & ~(1 << name)) > parts) {
                bridges |= 1 << name;
            }
        }
        return bridges;
    }

    public int bond() {
        int standing = wall.standing();
        int bond = NONE;
        int most = NONE;
        for (int one = 0; one < MOST_NAMES; one++) {
            int others = has(standing, one) ? standing & ~wall.city.partWith(one, standing) : 0;
            for (int other = one + 1; other < MOST_NAMES; other++) {
                int voices = wall.city.given[one][VOICE] + wall.city.given[other][VOICE];
                if (has(others, other) && voices > most) {
                    most = voices;
                    bond = 10 * one + other;
                }
            }
        }
        return bond;
    }

    public int dent(int place, int letter, boolean is) {
        if (isOutside(place, 0, Dents.PLACES - 1) || isOutside(letter, 0, Dents.LETTERS - 1)) {
            return NONE;
        }
        return dents.add(place, letter, is) ? dents.count : NONE;
    }

    public int fits(int i) {
        return i == NONE ? dents.fitting() : dents.fittingAt(i);
    }

    public int best() {
        return dents.look();
    }

    public int rival(int name, int x, int y) {
        if (!canShout(name) || !isHour(x) || !isHour(y)) {
            return HIDDEN;
        }
        return wall.againstRival(name, x, y);
    }

    public int rests(int name, int i) {
        if (!canShout(name)) {
            return NONE;
        }
        int hours = wall.city.square[HOURS];
        int found = 0;
        for (int x = 0; x < hours; x++) {
            for (int y = 0; y < hours; y++) {
                if (wall.isRest(name, x, y)) {
                    if (found == i) {
                        return 10 * x + y;
                    }
                    found++;
                }
            }
        }
        return i == NONE ? found : NONE;
    }

    public int odds(int name, int n, int v, int chance) {
        if (!wall.stands(name) || isOutside(n, 0, 30) || isOutside(v, 0, 9) || isOutside(chance, 0, 100)) {
            return NONE;
        }
        return chances.standing(wall, name, n, v, chance);
    }

    public int need(int name) {
        // No DEPTH is above CUT, so that just a VOICE of the LOSS keeps it.
        return wall.stands(name) ? wall.loss(name, wall.now.depth[name], wall.now.day, 1) : NONE;
    }

    public int sharpest() {
        int sharpest = NONE;
        for (int name = 0; name < MOST_NAMES; name++) {
            if (wall.stands(name) && (sharpest == NONE || wall.now.depth[name] > wall.now.depth[sharpest])) {
                sharpest = name;
            }
        }
        return sharpest;
    }

    public int faintest() {
        int faintest = NONE;
        for (int name = 0; name < MOST_NAMES; name++) {
            if (wall.stands(name) && (faintest == NONE || wall.now.depth[name] < wall.now.depth[faintest])) {
                faintest = name;
            }
        }
        return faintest;
    }

    public int richest() {
        int richest = NONE;
        for (int name = 0; name < MOST_NAMES; name++) {
            if (wall.isName(name) && (richest == NONE || wall.now.pence[name] > wall.now.pence[richest])) {
                richest = name;
            }
        }
        return richest;
    }

    public int friends(int name) {
        return wall.isName(name) ? wall.city.friends[name] : NONE;
    }

    public int helped() {
        if (hasNoCity()) {
            return NONE;
        }
        int heard = wall.heard();
        int helped = 0;
        for (int name = 0; name < MOST_NAMES; name++) {
            if (wall.gets(name, heard) > 0) {
                helped |= 1 << name;
            }
        }
        return helped;
    }

    public int doomed() {
        if (hasNoCity()) {
            return NONE;
        }
        int heard = wall.heard();
        int doomed = 0;
        for (int name = 0; name < MOST_NAMES; name++) {
            if (wall.stands(name) && wall.depthBehind(name, heard) == 0) {
                doomed |= 1 << name;
            }
        }
        return doomed;
    }

    public int image() {
        if (hasNoCity()) {
            return NONE;
        }
        past.paint(wall.now);
        return wall.now.day;
    }

    public int back() {
        return past.showImage(wall.now) ? wall.now.day : NONE;
    }

    public int count(int what) {
        switch (what) {
            case 0:
                return wall.city.names;
            case 1:
                return wall.city.ties;
            case 2:
                return wall.laws.count;
            case 3:
                return tape.length;
            case 4:
                return wall.laws.holding;
            case 5:
                return wall.now.day;
            case 6:
                return wall.now.fog ? 1 : 0;
            case 7:
                return wall.standing();
            case 8:
                return wall.shouts();
            case 9:
                return Integer.bitCount(wall.heard());
            case 10:
                return fogChance;
            case 11:
                return coldChance;
            case 12:
                return dents.count;
            case 13:
                return Math.min(wall.now.logged, MOST_LOGGED);
            case 14:
                return past.acts;
            default:
                return HIDDEN;
        }
    }

    private boolean hasNoCity() {
        return wall.city.names == 0;
    }

    private boolean canShout(int name) {
        return wall.stands(name) && !wall.hasShouted(name);
    }

    private boolean isHour(int hour) {
        return !isOutside(hour, 0, wall.city.square[HOURS] - 1);
    }

    private static boolean isOutside(int number, int low, int high) {
        return number < low || number > high;
    }

    private static boolean has(int bits, int name) {
        return name >= 0 && name < 32 && (bits >> name & 1) == 1;
    }

    private static int lowest(int bits) {
        for (int name = 0; name < MOST_NAMES; name++) {
            if (has(bits, name)) {
                return name;
            }
        }
        return 0;
    }

    /** The TAPE, and a place on it from which the readers read on. */
    private static final class Tape {
        private final int[] signs = new int[MOST_BYTES];
        private int length = 0;
        private int at = 0;

        static int bytesIn(int number) {
            int bytes = 0;
            for (int shift = 24; shift >= 0; shift -= 8) {
                bytes += (number >>> shift & 255) == 0 ? 0 : 1;
            }
            return bytes;
        }

        void add(int number) {
            for (int shift = 24; shift >= 0; shift -= 8) {
                int sign = number >>> shift & 255;
                if (sign != 0 && length < signs.length) {
                    signs[length] = sign;
                    length++;
                }
            }
        }

        /** The next sign that is no blank; the place is at it then. */
        int sign() {
            for (int i = 0; i < MOST_BYTES && at < length && signs[at] == ' '; i++) {
                at++;
            }
            return at < length ? signs[at] : NO_SIGN;
        }

        boolean takes(int sign) {
            boolean is = sign() == sign;
            if (is) {
                at++;
            }
            return is;
        }

        /** The number at the place. NONE: none, of too many digits, out of bounds; the place is at the wrong byte then. */
        int number(int mostDigits, int low, int high) {
            int number = NONE;
            for (int digits = 0; digits <= mostDigits; digits++) {
                int digit = at < length ? signs[at] - '0' : NONE;
                if (isOutside(digit, 0, 9)) {
                    break;
                }
                if (digits == mostDigits) {
                    return NONE;
                }
                number = digits == 0 ? digit : number * 10 + digit;
                at++;
            }
            if (number != NONE && isOutside(number, low, high)) {
                at--;
                return NONE;
            }
            return number;
        }
    }

    /** A CITY as its text tells it; with no NAMES there is none. */
    private static final class City {
        private final int[] square = new int[SQUARE_ITEMS];
        private final int[][] given = new int[MOST_NAMES][NAME_ITEMS];
        private final int[][] tie = new int[MOST_TIES][TIE_ITEMS];
        private final int[] friends = new int[MOST_NAMES];
        private final int[] alike = new int[MOST_NAMES];
        private boolean isSquareTold = false;
        private int names = 0;
        private int ties = 0;

        void clear() {
            for (int i = 0; i < SQUARE_ITEMS; i++) {
                square[i] = SQUARE_FIRST[i];
            }
            isSquareTold = false;
            names = 0;
            ties = 0;
        }

        /** Whether all that only the whole text shows is right; FRIENDS and LIKE ones are known then. */
        boolean isWhole() {
            for (int name = 0; name < names && name < MOST_NAMES; name++) {
                if (given[name][DEPTH] > square[CUT]) {
                    return false;
                }
            }
            for (int i = 0; i < ties && i < MOST_TIES; i++) {
                if (tie[i][0] == tie[i][1] || tie[i][0] >= names || tie[i][1] >= names) {
                    return false;
                }
            }
            if (names < 2) {
                return false;
            }
            findFriends();
            findAlike();
            return true;
        }

        private void findFriends() {
            for (int name = 0; name < MOST_NAMES; name++) {
                friends[name] = 0;
                for (int i = 0; i < ties && i < MOST_TIES; i++) {
                    friends[name] |= tie[i][0] == name ? 1 << tie[i][1] : 0;
                    friends[name] |= tie[i][1] == name ? 1 << tie[i][0] : 0;
                }
            }
        }

        private void findAlike() {
            for (int name = 0; name < MOST_NAMES; name++) {
                alike[name] = 0;
                for (int other = 0; other < names && other < MOST_NAMES; other++) {
                    boolean isAlike = given[name][LIKE] != 0 && given[name][LIKE] == given[other][LIKE];
                    alike[name] |= isAlike && name < names && name != other ? 1 << other : 0;
                }
            }
        }

        int partWith(int name, int among) {
            int part = 1 << name;
            for (int round = 1; round < MOST_NAMES; round++) {
                for (int one = 0; one < MOST_NAMES; one++) {
                    part |= has(part, one) ? friends[one] & among : 0;
                }
            }
            return part;
        }

        int partsOf(int among) {
            int parts = 0;
            int left = among;
            for (int name = 0; name < MOST_NAMES; name++) {
                if (has(left, name)) {
                    left &= ~partWith(name, among);
                    parts++;
                }
            }
            return parts;
        }
    }

    /** Reads a TAPE as a CITY. */
    private static final class CityReader {

        /** The FAULT; with NONE the CITY is what the TAPE tells. */
        int read(Tape tape, City city) {
            city.clear();
            tape.at = 0;
            boolean isGood = readClause(tape, city);
            for (int i = 0; isGood && i < MOST_BYTES && tape.takes(';'); i++) {
                isGood = readClause(tape, city);
            }
            if (!isGood || tape.sign() != NO_SIGN) {
                return tape.at;
            }
            return city.isWhole() ? NONE : tape.length;
        }

        private boolean readClause(Tape tape, City city) {
            int sign = tape.sign();
            if (sign == 's' && !city.isSquareTold) {
                tape.at++;
                city.isSquareTold = true;
                return readItems(tape, SQUARE_LETTERS, SQUARE_FIRST, SQUARE_LOW, SQUARE_HIGH, city.square);
            }
            if (sign == 'n' && city.names < MOST_NAMES) {
                tape.at++;
                city.names++;
                return readItems(tape, NAME_LETTERS, NAME_FIRST, NAME_LOW, NAME_HIGH, city.given[city.names - 1]);
            }
            if (sign == 't' && city.ties < MOST_TIES) {
                tape.at++;
                city.ties++;
                return readItems(tape, TIE_LETTERS, TIE_FIRST, TIE_LOW, TIE_HIGH, city.tie[city.ties - 1]);
            }
            return false;
        }

        private boolean readItems(Tape tape, String letters, int[] first, int[] low, int[] high, int[] row) {
            int told = 0;
            for (int i = 0; i < row.length && i < first.length; i++) {
                row[i] = first[i];
            }
            for (int i = 0; i <= row.length; i++) {
                int sign = tape.sign();
                int item = sign == NO_SIGN ? NONE : letters.indexOf((char) sign);
                if (item < 0 || item >= row.length || item >= low.length || item >= high.length) {
                    return true;
                }
                if (has(told, item)) {
                    return false;
                }
                told |= 1 << item;
                tape.at++;
                tape.sign();
                row[item] = tape.number(2, low[item], high[item]);
                if (row[item] == NONE) {
                    return false;
                }
            }
            return true;
        }
    }

    /** Reads a TAPE as a LAW into code: a number as it is, each other sign below 0, what a sign joins ahead of it. */
    private static final class LawReader {
        private final int[] code = new int[MOST_BYTES];
        private int length = 0;

        /** The FAULT; with NONE the code is what the TAPE tells. */
        int read(Tape tape) {
            length = 0;
            tape.at = 0;
            boolean isGood = readClause(tape);
            for (int i = 0; isGood && i < MOST_BYTES && tape.takes(';'); i++) {
                isGood = readClause(tape);
            }
            return isGood && tape.sign() == NO_SIGN ? NONE : tape.at;
        }

        private boolean put(int number) {
            if (length >= code.length) {
                return false;
            }
            code[length] = number;
            length++;
            return true;
        }

        private boolean readClause(Tape tape) {
            if (!tape.takes('y') || !tape.takes(':')) {
                return false;
            }
            if (isConditionAhead(tape) && !(readCondition(tape, 0) && tape.takes('?') && put(-'?'))) {
                return false;
            }
            return readSum(tape, 0) && put(-';');
        }

        /** Only behind its first SUM does a CLAUSE show whether it has a CONDITION: that SUM is read and given back. */
        private boolean isConditionAhead(Tape tape) {
            int sign = tape.sign();
            if (sign == '!' || sign == '(') {
                return true;
            }
            int at = tape.at;
            int was = length;
            boolean isAhead = readSum(tape, 0) && isComparison(tape.sign());
            tape.at = at;
            length = was;
            return isAhead;
        }

        private static boolean isComparison(int sign) {
            return sign == '=' || sign == '<' || sign == '>';
        }

        private boolean readCondition(Tape tape, int nested) {
            boolean isGood = readTruth(tape, nested);
            for (int i = 0; isGood && i < MOST_BYTES && tape.takes('|'); i++) {
                isGood = readTruth(tape, nested) && put(-'|');
            }
            return isGood;
        }

        private boolean readTruth(Tape tape, int nested) {
            boolean isGood = readUnit(tape, nested);
            for (int i = 0; isGood && i < MOST_BYTES && tape.takes('&'); i++) {
                isGood = readUnit(tape, nested) && put(-'&');
            }
            return isGood;
        }

        private boolean readUnit(Tape tape, int nested) {
            int sign = tape.sign();
            if (sign == '!' || sign == '(') {
                if (nested >= MOST_NESTED) {
                    return false;
                }
                tape.at++;
                if (sign == '!') {
                    return readUnit(tape, nested + 1) && put(-'!');
                }
                return readCondition(tape, nested + 1) && tape.takes(')');
            }
            if (!readSum(tape, nested) || !isComparison(tape.sign())) {
                return false;
            }
            sign = tape.sign();
            tape.at++;
            return readSum(tape, nested) && put(-sign);
        }

        private boolean readSum(Tape tape, int nested) {
            boolean isGood = readTerm(tape, nested);
            for (int i = 0; isGood && i < MOST_BYTES; i++) {
                int sign = tape.sign();
                if (sign != '+' && sign != '-') {
                    return true;
                }
                tape.at++;
                isGood = readTerm(tape, nested) && put(-sign);
            }
            return isGood;
        }

        private boolean readTerm(Tape tape, int nested) {
            boolean isGood = readAtom(tape, nested);
            for (int i = 0; isGood && i < MOST_BYTES; i++) {
                int sign = tape.sign();
                if (sign != '*' && sign != '/') {
                    return true;
                }
                tape.at++;
                isGood = readAtom(tape, nested) && put(-sign);
            }
            return isGood;
        }

        private boolean readAtom(Tape tape, int nested) {
            int sign = tape.sign();
            if (sign == '[') {
                if (nested >= MOST_NESTED) {
                    return false;
                }
                tape.at++;
                return readSum(tape, nested + 1) && tape.takes(']');
            }
            if (sign != NO_SIGN && Laws.LETTERS.indexOf((char) sign) >= 0) {
                tape.at++;
                return put(-sign);
            }
            int number = tape.number(4, 0, 9999);
            return number != NONE && put(number);
        }
    }

    /** The LAWS as code, and the letters that the one that holds is reckoned with. */
    private static final class Laws {
        private static final String LETTERS = "dkrysp";
        private static final int BOUND = 1000000;

        private final int[][] code = new int[MOST_LAWS][MOST_BYTES];
        private final int[] length = new int[MOST_LAWS];
        private final int[] letters = new int[6];
        private final int[] stack = new int[MOST_BYTES];
        private int top = 0;
        private int count = 0;
        private int holding = NONE;

        int add(int[] newCode, int newLength) {
            if (count >= MOST_LAWS) {
                return NONE;
            }
            for (int i = 0; i < newLength && i < newCode.length && i < MOST_BYTES; i++) {
                code[count][i] = newCode[i];
            }
            length[count] = newLength;
            count++;
            return count - 1;
        }

        int worth(int depth, int kind, int rain, int day, int heard, int pence) {
            letters[0] = depth;
            letters[1] = kind;
            letters[2] = rain;
            letters[3] = day;
            letters[4] = heard;
            letters[5] = pence;
            if (isOutside(holding, 0, count - 1)) {
                return 0;
            }
            boolean isTrue = true;
            top = 0;
            for (int i = 0; i < length[holding] && i < MOST_BYTES; i++) {
                int sign = -code[holding][i];
                if (sign == ';') {
                    int worth = pop();
                    if (isTrue) {
                        return worth;
                    }
                    isTrue = true;
                } else if (sign == '?') {
                    isTrue = pop() != 0;
                } else {
                    reckon(sign);
                }
            }
            return 0;
        }

        private void reckon(int sign) {
            if (sign <= 0) {
                push(-sign);
                return;
            }
            int letter = LETTERS.indexOf((char) sign);
            if (letter >= 0 && letter < letters.length) {
                push(letters[letter]);
                return;
            }
            int right = pop();
            if (sign == '!') {
                push(1 - right);
            } else {
                push(bounded(joined(sign, pop(), right)));
            }
        }

        private static long joined(int sign, int left, int right) {
            switch (sign) {
                case '+':
                    return left + right;
                case '-':
                    return left - right;
                case '*':
                    return (long) left * right;
                case '/':
                    return right == 0 ? 0 : left / right;
                case '=':
                    return left == right ? 1 : 0;
                case '<':
                    return left < right ? 1 : 0;
                case '>':
                    return left > right ? 1 : 0;
                case '&':
                    return left & right;
                case '|':
                    return left | right;
                default:
                    return 0;
            }
        }

        private static int bounded(long number) {
            return number > BOUND ? BOUND : number < -BOUND ? -BOUND : (int) number;
        }

        private void push(int number) {
            if (top >= 0 && top < stack.length) {
                stack[top] = number;
                top++;
            }
        }

        private int pop() {
            if (top < 1 || top > stack.length) {
                return 0;
            }
            top--;
            return stack[top];
        }
    }

    /** All that a DAY changes, and how many DAYS have gone into the LOG. */
    private static final class Day {
        private final int[] depth = new int[MOST_NAMES];
        private final int[] pence = new int[MOST_NAMES];
        private final int[] whom = new int[MOST_NAMES];
        private final int[] hour = new int[MOST_NAMES];
        private int hoarse = 0;
        private boolean fog = false;
        private int day = 0;
        private int logged = 0;

        Day() {
            silence();
        }

        void begin(City city) {
            for (int name = 0; name < MOST_NAMES; name++) {
                depth[name] = name < city.names ? city.given[name][DEPTH] : 0;
                pence[name] = name < city.names ? city.given[name][PENCE] : 0;
            }
            day = 0;
            logged = 0;
            silence();
        }

        void dawn() {
            day++;
            silence();
        }

        private void silence() {
            for (int name = 0; name < MOST_NAMES; name++) {
                whom[name] = NONE;
                hour[name] = NONE;
            }
            hoarse = 0;
            fog = false;
        }

        void become(Day other) {
            for (int name = 0; name < MOST_NAMES; name++) {
                depth[name] = other.depth[name];
                pence[name] = other.pence[name];
                whom[name] = other.whom[name];
                hour[name] = other.hour[name];
            }
            hoarse = other.hoarse;
            fog = other.fog;
            day = other.day;
            logged = other.logged;
        }
    }

    /** The DAY ahead of each ACT that can be UNDONE, the LOG and the IMAGE. */
    private static final class Past {
        private static final int LOG_ITEMS = 3;
        // Behind 40 EVENINGS that are UNDONE the 60 DAYS ahead of them must still be here.
        private static final int LOG_ROOM = MOST_LOGGED + MOST_ACTS;

        private final Day[] ahead = new Day[MOST_ACTS];
        private final int[][] log = new int[LOG_ROOM][LOG_ITEMS];
        private final Day image = new Day();
        private final int[][] imageLog = new int[LOG_ROOM][LOG_ITEMS];
        private boolean hasImage = false;
        private int next = 0;
        private int acts = 0;

        Past() {
            for (int i = 0; i < MOST_ACTS; i++) {
                ahead[i] = new Day();
            }
        }

        void clear() {
            acts = 0;
            hasImage = false;
        }

        void remember(Day now) {
            ahead[next].become(now);
            next = next + 1 < MOST_ACTS ? next + 1 : 0;
            acts = Math.min(acts + 1, MOST_ACTS);
        }

        boolean takeBack(Day now) {
            if (acts == 0) {
                return false;
            }
            next = next > 0 ? next - 1 : MOST_ACTS - 1;
            now.become(ahead[next]);
            acts--;
            return true;
        }

        void write(Day now, int gone, int heard, int depths) {
            int[] row = log[now.logged % LOG_ROOM];
            row[0] = gone;
            row[1] = heard;
            row[2] = depths;
            now.logged++;
        }

        int read(Day now, int i, int what) {
            int length = Math.min(now.logged, MOST_LOGGED);
            if (isOutside(i, 0, length - 1) || isOutside(what, 0, LOG_ITEMS - 1)) {
                return NONE;
            }
            return log[(now.logged - 1 - i) % LOG_ROOM][what];
        }

        void paint(Day now) {
            image.become(now);
            copyLog(log, imageLog);
            hasImage = true;
        }

        boolean showImage(Day now) {
            if (!hasImage) {
                return false;
            }
            now.become(image);
            copyLog(imageLog, log);
            acts = 0;
            return true;
        }

        private static void copyLog(int[][] from, int[][] to) {
            for (int i = 0; i < LOG_ROOM; i++) {
                for (int what = 0; what < LOG_ITEMS; what++) {
                    to[i][what] = from[i][what];
                }
            }
        }
    }

    /** The CITY on the DAY that is now, by the LAWS. Who is HEARD is told as bits of those who SHOUT. */
    private static final class Wall {
        private final City city = new City();
        private final Laws laws = new Laws();
        private final Day now = new Day();
        private final int[] deep = new int[MOST_NAMES];

        boolean isName(int name) {
            return name >= 0 && name < city.names && name < MOST_NAMES;
        }

        boolean stands(int name) {
            return isName(name) && now.depth[name] > 0;
        }

        int standing() {
            int standing = 0;
            for (int name = 0; name < MOST_NAMES; name++) {
                standing |= stands(name) ? 1 << name : 0;
            }
            return standing;
        }

        boolean hasShouted(int name) {
            return isName(name) && now.whom[name] != NONE;
        }

        int shouts() {
            int shouts = 0;
            for (int name = 0; name < MOST_NAMES; name++) {
                shouts += hasShouted(name) ? 1 : 0;
            }
            return shouts;
        }

        private int shoutsIn(int hour) {
            int shouts = 0;
            for (int name = 0; name < MOST_NAMES; name++) {
                shouts += hasShouted(name) && now.hour[name] == hour ? 1 : 0;
            }
            return shouts;
        }

        int voice(int name) {
            return !isName(name) || has(now.hoarse, name) ? 0 : city.given[name][VOICE];
        }

        int wage(int name, int other) {
            return !isName(name) || has(city.friends[name], other) ? 0 : city.given[name][WAGE];
        }

        int heard() {
            int heard = 0;
            for (int name = 0; name < MOST_NAMES && !now.fog; name++) {
                if (hasShouted(name) && shoutsIn(now.hour[name]) <= city.square[DROWN]) {
                    heard |= 1 << name;
                }
            }
            return heard;
        }

        int heardFor(int name, int heard) {
            int count = 0;
            for (int other = 0; other < MOST_NAMES; other++) {
                count += has(heard, other) && now.whom[other] == name ? 1 : 0;
            }
            return count;
        }

        int gets(int name, int heard) {
            if (!stands(name)) {
                return 0;
            }
            int gets = 0;
            for (int other = 0; other < MOST_NAMES; other++) {
                gets += has(heard, other) && now.whom[other] == name ? voice(other) : 0;
                gets += has(city.alike[name], other) && heardFor(other, heard) > 0 ? 1 : 0;
            }
            return gets;
        }

        int loss(int name, int depth, int day, int heard) {
            if (!isName(name)) {
                return 0;
            }
            int rain = city.square[RAIN];
            int kind = city.given[name][KIND];
            int loss = rain + kind;
            if (laws.holding != NONE) {
                loss = laws.worth(depth, kind, rain, day, heard, now.pence[name]);
            }
            return loss < 0 ? 0 : loss > MOST_LOSS ? MOST_LOSS : loss;
        }

        int lossNow(int name, int heard) {
            return isName(name) ? loss(name, now.depth[name], now.day, heardFor(name, heard)) : 0;
        }

        int held(int depth) {
            return depth < 0 ? 0 : depth > city.square[CUT] ? city.square[CUT] : depth;
        }

        int depthBehind(int name, int heard) {
            if (!stands(name)) {
                return 0;
            }
            int depth = now.depth[name];
            return held(depth + gets(name, heard) - loss(name, depth, now.day, heardFor(name, heard)));
        }

        void passEvening(Past past) {
            int heard = heard();
            int before = standing();
            for (int name = 0; name < MOST_NAMES; name++) {
                deep[name] = depthBehind(name, heard);
            }
            int depths = 0;
            for (int name = 0; name < MOST_NAMES; name++) {
                now.depth[name] = deep[name];
                depths += deep[name];
            }
            past.write(now, before & ~standing(), Integer.bitCount(heard), depths);
            now.dawn();
        }

        /**
         * PACKED. NAMES that are LIKE fall into groups, each apart from all others: laid group by group, each SHOUT an
         * HOUR further, round and round, SHOUTS fit into as many HOURS as the largest group and DROWN ask for.
         */
        int hoursNeeded() {
            int hours = 0;
            for (int name = 0; name < MOST_NAMES; name++) {
                int apart = 0;
                for (int other = 0; other < MOST_NAMES; other++) {
                    int whom = now.whom[other];
                    apart += whom == name || has(city.alike[name], whom) ? 1 : 0;
                }
                hours = Math.max(hours, apart);
            }
            for (int i = 0; i < MOST_NAMES && hours * city.square[DROWN] < shouts(); i++) {
                hours++;
            }
            return hours;
        }

        int againstRival(int name, int x, int y) {
            return x != y && shoutsIn(x) < city.square[DROWN] ? voice(name) : 0;
        }

        boolean isRest(int name, int x, int y) {
            int share = againstRival(name, x, y);
            for (int hour = 0; hour < city.square[HOURS]; hour++) {
                if (againstRival(name, hour, y) > share || againstRival(name, x, hour) < share) {
                    return false;
                }
            }
            return true;
        }
    }

    /** KEEP, RING and PRICE: who SHOUTS whom, at what WAGES. */
    private static final class Plans {
        private static final int MOST_SHOUTERS = 6;
        private static final int NOBODY = 9;
        private static final int TOO_DEAR = 1000;

        private final int[] who = new int[MOST_SHOUTERS];
        private final int[] whom = new int[MOST_SHOUTERS];
        private final int[] voicesLeft = new int[MOST_SHOUTERS + 1];
        private final int[] got = new int[MOST_NAMES];
        private final int[] shouts = new int[MOST_NAMES];
        private final int[] purse = new int[MOST_NAMES];
        private final int[] leastLoss = new int[MOST_NAMES];
        // By NAME, and by how many SHOUTS of it are HEARD.
        private final int[][] loss = new int[MOST_NAMES][MOST_SHOUTERS];
        private int shouters = 0;
        private int kept = 0;
        private int room = 0;
        private int wages = 0;
        private int digits = 0;
        private int helpers = 0;

        boolean findKeep(Wall wall, int names) {
            kept = names;
            room = wall.city.square[HOURS] * wall.city.square[DROWN];
            wages = TOO_DEAR;
            for (int name = 0; name < MOST_NAMES; name++) {
                got[name] = 0;
                shouts[name] = 0;
                purse[name] = wall.now.pence[name];
                findLosses(wall, name);
            }
            findShouters(wall);
            lay(wall, 0, 0);
            return wages < TOO_DEAR;
        }

        private void findLosses(Wall wall, int name) {
            leastLoss[name] = MOST_LOSS;
            for (int heard = 0; heard < MOST_SHOUTERS; heard++) {
                loss[name][heard] = wall.loss(name, wall.now.depth[name], wall.now.day, heard);
                leastLoss[name] = Math.min(leastLoss[name], loss[name][heard]);
            }
        }

        private void findShouters(Wall wall) {
            shouters = 0;
            for (int name = 0; name < MOST_NAMES; name++) {
                if (wall.stands(name) && shouters < MOST_SHOUTERS) {
                    who[shouters] = name;
                    shouters++;
                }
            }
            voicesLeft[shouters] = 0;
            for (int turn = shouters - 1; turn >= 0; turn--) {
                voicesLeft[turn] = voicesLeft[turn + 1] + wall.voice(who[turn]);
            }
        }

        /** Digits rise from plan to plan, so that only one of less WAGES is better than the one found. */
        private void lay(Wall wall, int turn, int paid) {
            if (turn > shouters || paid >= wages || !hasHope(wall, turn)) {
                return;
            }
            if (turn == shouters || turn >= MOST_SHOUTERS) {
                if (isKept(wall)) {
                    wages = paid;
                    writeDigits();
                }
                return;
            }
            int name = who[turn];
            for (int other = 0; other < MOST_NAMES && room > 0; other++) {
                int wage = wall.wage(name, other);
                if (other != name && wall.stands(other) && purse[other] >= wage) {
                    whom[turn] = other;
                    change(other, 1, wall.voice(name), wage);
                    lay(wall, turn + 1, paid + wage);
                    change(other, -1, -wall.voice(name), -wage);
                }
            }
            whom[turn] = NOBODY;
            lay(wall, turn + 1, paid);
        }

        private void change(int other, int shout, int voice, int wage) {
            room -= shout;
            shouts[other] += shout;
            got[other] += voice;
            purse[other] -= wage;
        }

        private boolean hasHope(Wall wall, int turn) {
            for (int name = 0; name < MOST_NAMES; name++) {
                int most = got[name] + voicesLeft[turn] + Integer.bitCount(wall.city.alike[name]);
                if (has(kept, name) && most < leastLoss[name]) {
                    return false;
                }
            }
            return true;
        }

        private boolean isKept(Wall wall) {
            int called = 0;
            for (int name = 0; name < MOST_NAMES; name++) {
                called |= shouts[name] > 0 ? 1 << name : 0;
            }
            for (int name = 0; name < MOST_NAMES; name++) {
                int heard = shouts[name];
                int gets = got[name] + Integer.bitCount(called & wall.city.alike[name]);
                if (has(kept, name) && (isOutside(heard, 0, MOST_SHOUTERS - 1) || gets < loss[name][heard])) {
                    return false;
                }
            }
            return true;
        }

        private void writeDigits() {
            digits = 0;
            for (int turn = 0; turn < shouters; turn++) {
                digits = digits * 10 + whom[turn];
            }
        }

        int findRing(Wall wall, int names) {
            for (int name = 0; name < MOST_NAMES; name++) {
                leastLoss[name] = wall.loss(name, wall.now.depth[name], wall.now.day, 1);
            }
            who[0] = lowest(names);
            return goRound(wall, 1, names & ~(1 << who[0]), who[0]);
        }

        /** The digits of the ring whose first ones stand in their order, as many as turns were taken. */
        private int goRound(Wall wall, int turn, int left, int written) {
            if (turn < 1 || turn > MOST_SHOUTERS) {
                return NONE;
            }
            int voice = wall.voice(who[turn - 1]);
            if (left == 0) {
                return voice >= leastLoss[who[0]] ? written : NONE;
            }
            for (int next = 0; next < MOST_NAMES && turn < MOST_SHOUTERS; next++) {
                if (has(left, next) && voice >= leastLoss[next]) {
                    who[turn] = next;
                    int ring = goRound(wall, turn + 1, left & ~(1 << next), written * 10 + next);
                    if (ring != NONE) {
                        return ring;
                    }
                }
            }
            return NONE;
        }

        boolean findPrice(Wall wall, int name) {
            int others = wall.standing() & ~(1 << name);
            int due = wall.lossNow(name, wall.heard());
            wages = TOO_DEAR;
            for (int set = 0; set <= others; set++) {
                if ((set & ~others) == 0) {
                    priceOf(wall, name, set, due);
                }
            }
            return wages < TOO_DEAR;
        }

        private void priceOf(Wall wall, int name, int set, int due) {
            int voices = 0;
            int cost = 0;
            for (int other = 0; other < MOST_NAMES; other++) {
                voices += has(set, other) ? wall.voice(other) : 0;
                cost += has(set, other) ? wall.wage(other, name) : 0;
            }
            if (voices >= due && cost < wages) {
                wages = cost;
                helpers = set;
            }
        }
    }

    /** ODDS: of all parts, how many are at each DEPTH. */
    private static final class Odds {
        private static final int ALL = 1000000000;

        private final int[] parts = new int[MOST_DEPTH + 1];
        private final int[] next = new int[MOST_DEPTH + 1];

        int standing(Wall wall, int name, int days, int voice, int chance) {
            for (int depth = 0; depth <= MOST_DEPTH; depth++) {
                parts[depth] = depth == wall.now.depth[name] ? ALL : 0;
            }
            for (int day = 0; day < days; day++) {
                passDay(wall, name, wall.now.day + day, voice, chance);
            }
            int standing = 0;
            for (int depth = 1; depth <= MOST_DEPTH; depth++) {
                standing += parts[depth];
            }
            return standing;
        }

        private void passDay(Wall wall, int name, int day, int voice, int chance) {
            for (int depth = 0; depth <= MOST_DEPTH; depth++) {
                next[depth] = 0;
            }
            for (int depth = 1; depth <= MOST_DEPTH; depth++) {
                if (parts[depth] > 0) {
                    int inFog = (int) ((long) parts[depth] * chance / 100);
                    add(wall.held(depth - wall.loss(name, depth, day, 0)), inFog);
                    add(wall.held(depth + voice - wall.loss(name, depth, day, 1)), parts[depth] - inFog);
                }
            }
            for (int depth = 0; depth <= MOST_DEPTH; depth++) {
                parts[depth] = next[depth];
            }
        }

        private void add(int depth, int more) {
            if (depth >= 0 && depth <= MOST_DEPTH) {
                next[depth] += more;
            }
        }
    }

    /** A found NAME by its DENTS; it is told by a number below 125, its letters are that number's digits by five. */
    private static final class Dents {
        private static final int PLACES = 3;
        private static final int LETTERS = 5;
        private static final int ALL = 125;

        private final int[] place = new int[MOST_DENTS];
        private final int[] letter = new int[MOST_DENTS];
        private final boolean[] is = new boolean[MOST_DENTS];
        private int count = 0;

        boolean add(int newPlace, int newLetter, boolean newIs) {
            if (count >= MOST_DENTS) {
                return false;
            }
            place[count] = newPlace;
            letter[count] = newLetter;
            is[count] = newIs;
            count++;
            return true;
        }

        private static int letterOf(int found, int place) {
            return place == 0 ? found / 25 : place == 1 ? found / 5 % 5 : found % 5;
        }

        private boolean canBe(int found) {
            for (int i = 0; i < count && i < MOST_DENTS; i++) {
                if ((letterOf(found, place[i]) == letter[i]) != is[i]) {
                    return false;
                }
            }
            return true;
        }

        int fitting() {
            int fitting = 0;
            for (int found = 0; found < ALL; found++) {
                fitting += canBe(found) ? 1 : 0;
            }
            return fitting;
        }

        int fittingAt(int i) {
            int fitting = 0;
            for (int found = 0; found < ALL; found++) {
                if (canBe(found)) {
                    if (fitting == i) {
                        return 100 * letterOf(found, 0) + 10 * letterOf(found, 1) + letterOf(found, 2);
                    }
                    fitting++;
                }
            }
            return NONE;
        }

        int look() {
            int all = fitting();
            int look = NONE;
            int least = ALL + 1;
            for (int at = 0; at < PLACES && all > 0; at++) {
                for (int sign = 0; sign < LETTERS; sign++) {
                    int apart = Math.abs(all - 2 * fittingWith(at, sign));
                    if (apart < least) {
                        least = apart;
                        look = 10 * at + sign;
                    }
                }
            }
            return look;
        }

        private int fittingWith(int at, int sign) {
            int fitting = 0;
            for (int found = 0; found < ALL; found++) {
                fitting += letterOf(found, at) == sign && canBe(found) ? 1 : 0;
            }
            return fitting;
        }
    }
}
