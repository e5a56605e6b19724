import java.math.BigInteger;
import java.util.ArrayDeque;
import java.util.ArrayList;
import java.util.Collections;
import java.util.Deque;
import java.util.HashSet;
import java.util.List;
import java.util.Map;
import java.util.NoSuchElementException;
import java.util.Set;
import java.util.TreeMap;
import java.util.TreeSet;

/** The document once more, as slowly and as differently as can be: what NameWall answers is held against it. */
final class WallModel {
    static final int NONE = -1;
    static final int HIDDEN = -1000000;

    record Person(int voice, int kind, int like, int pence, int wage, int depth) { }

    record Shout(int by, int of, int hour) { }

    record Entry(int gone, int heard, int depths) { }

    static final class State {
        List<Integer> depth = new ArrayList<>();
        List<Integer> pence = new ArrayList<>();
        List<Shout> shouts = new ArrayList<>();
        Set<Integer> hoarse = new TreeSet<>();
        boolean fog = false;
        int day = 0;
        List<Entry> log = new ArrayList<>();

        State copy() {
            State copy = new State();
            copy.depth.addAll(depth);
            copy.pence.addAll(pence);
            copy.shouts.addAll(shouts);
            copy.hoarse.addAll(hoarse);
            copy.fog = fog;
            copy.day = day;
            copy.log.addAll(log);
            return copy;
        }
    }

    String tape = "";
    int rain;
    int cut;
    int hours;
    int drown;
    List<Person> people = new ArrayList<>();
    Set<List<Integer>> ties = new HashSet<>();
    int tieCount = 0;
    List<String> laws = new ArrayList<>();
    int law = NONE;
    State now = new State();
    Deque<State> acts = new ArrayDeque<>();
    State image = null;
    List<int[]> dents = new ArrayList<>();
    int fogs = 0;
    int colds = 0;

    int feed(int a, int b, int c, int d, int e) {
        StringBuilder more = new StringBuilder(tape);
        for (int number : new int[] {a, b, c, d, e}) {
            for (byte one : BigInteger.valueOf(number & 0xffffffffL | 1L << 40).toByteArray()) {
                more.append((char) (one & 255));
            }
            int from = more.length() - 6;
            more.delete(from, from + 2);
        }
        String all = more.toString().replace("\0", "");
        if (all.length() > 240) {
            return NONE;
        }
        tape = all;
        return tape.length();
    }

    boolean end(int n) {
        if (n < 0 || n > tape.length()) {
            return false;
        }
        tape = tape.substring(0, n);
        return true;
    }

    int fault(int sort) {
        return sort == 0 ? TextModel.cityFault(tape) : sort == 1 ? TextModel.lawFault(tape) : -2;
    }

    int text(int sort) {
        if (sort < 0 || sort > 1 || fault(sort) != NONE || sort == 1 && laws.size() == 4) {
            return NONE;
        }
        String text = tape.replace(" ", "");
        tape = "";
        if (sort == 1) {
            laws.add(text);
            return laws.size() - 1;
        }
        readCity(text);
        return people.size();
    }

    private void readCity(String text) {
        rain = 2;
        cut = 40;
        hours = 4;
        drown = 2;
        people.clear();
        ties.clear();
        tieCount = 0;
        now = new State();
        acts.clear();
        image = null;
        dents.clear();
        for (String clause : text.split(";")) {
            String items = clause.substring(1);
            if (clause.charAt(0) == 's') {
                rain = item(items, 'r', 2);
                cut = item(items, 'c', 40);
                hours = item(items, 'h', 4);
                drown = item(items, 'd', 2);
            } else if (clause.charAt(0) == 'n') {
                people.add(new Person(item(items, 'v', 3), item(items, 'k', 0), item(items, 'g', 0),
                        item(items, 'p', 5), item(items, 'w', 1), item(items, 'i', 20)));
            } else {
                ties.add(List.of(item(items, 'a', 0), item(items, 'b', 1)));
                tieCount++;
            }
        }
        for (Person person : people) {
            now.depth.add(person.depth);
            now.pence.add(person.pence);
        }
    }

    private static int item(String items, char letter, int without) {
        int at = items.indexOf(letter);
        if (at < 0) {
            return without;
        }
        String number = "";
        for (int i = at + 1; i < items.length() && Character.isDigit(items.charAt(i)); i++) {
            number += items.charAt(i);
        }
        return Integer.parseInt(number);
    }

    private boolean isCity() {
        return !people.isEmpty();
    }

    private boolean is(int name) {
        return name >= 0 && name < people.size();
    }

    private boolean stands(int name) {
        return is(name) && now.depth.get(name) > 0;
    }

    List<Integer> standing() {
        List<Integer> standing = new ArrayList<>();
        for (int name = 0; name < people.size(); name++) {
            if (stands(name)) {
                standing.add(name);
            }
        }
        return standing;
    }

    private static int bits(Iterable<Integer> names) {
        int bits = 0;
        for (int name : names) {
            bits |= 1 << name;
        }
        return bits;
    }

    private boolean areTied(int one, int other) {
        return ties.contains(List.of(one, other)) || ties.contains(List.of(other, one));
    }

    private boolean areLike(int one, int other) {
        int like = people.get(one).like;
        return one != other && like != 0 && like == people.get(other).like;
    }

    private int voice(int name) {
        return now.hoarse.contains(name) ? 0 : people.get(name).voice;
    }

    private Shout shoutBy(int name) {
        for (Shout shout : now.shouts) {
            if (shout.by == name) {
                return shout;
            }
        }
        return null;
    }

    private List<Shout> heard() {
        List<Shout> heard = new ArrayList<>();
        for (Shout shout : now.shouts) {
            int crowd = 0;
            for (Shout other : now.shouts) {
                crowd += other.hour == shout.hour ? 1 : 0;
            }
            if (!now.fog && crowd <= drown) {
                heard.add(shout);
            }
        }
        return heard;
    }

    private int gets(int name, List<Shout> heard) {
        int gets = 0;
        Set<Integer> called = new HashSet<>();
        for (Shout shout : heard) {
            gets += shout.of == name ? voice(shout.by) : 0;
            called.add(shout.of);
        }
        for (int other : called) {
            gets += areLike(name, other) ? 1 : 0;
        }
        return stands(name) ? gets : 0;
    }

    private static int times(int name, List<Shout> shouts) {
        int times = 0;
        for (Shout shout : shouts) {
            times += shout.of == name ? 1 : 0;
        }
        return times;
    }

    private int loss(int name, int depth, int day, int heard) {
        int kind = people.get(name).kind;
        if (law == NONE) {
            return rain + kind;
        }
        Map<Character, Integer> letters = Map.of('d', depth, 'k', kind, 'r', rain, 'y', day, 's', heard,
                'p', now.pence.get(name));
        return Math.max(0, Math.min(99, TextModel.worth(laws.get(law), letters)));
    }

    private int lossNow(int name) {
        return loss(name, now.depth.get(name), now.day, times(name, heard()));
    }

    private int held(int depth) {
        return Math.max(0, Math.min(cut, depth));
    }

    int square(int what) {
        return !isCity() || what < 0 || what > 3 ? NONE : new int[] {rain, cut, hours, drown}[what];
    }

    int name(int name, int what) {
        if (!is(name) || what < 0 || what > 10) {
            throw new NoSuchElementException();
        }
        Person person = people.get(name);
        Shout shout = shoutBy(name);
        return new int[] {person.voice, person.kind, person.like, now.pence.get(name), person.wage,
            now.depth.get(name), shout == null ? NONE : shout.of, shout == null ? NONE : shout.hour,
            now.hoarse.contains(name) ? 1 : 0, lossNow(name), gets(name, heard())}[what];
    }

    boolean law(int law) {
        if (law < -1 || law >= laws.size()) {
            return false;
        }
        this.law = law;
        return true;
    }

    int tied(int one, int other) {
        return !is(one) || !is(other) ? NONE : areTied(one, other) ? 1 : 0;
    }

    private void act() {
        acts.addLast(now.copy());
        if (acts.size() > 40) {
            acts.removeFirst();
        }
    }

    int shout(int name, int other, int hour) {
        if (!stands(name) || !stands(other) || name == other || shoutBy(name) != null || hour < 0 || hour >= hours) {
            return NONE;
        }
        int wage = areTied(name, other) ? 0 : people.get(name).wage;
        if (now.pence.get(other) < wage) {
            return NONE;
        }
        act();
        now.shouts.add(new Shout(name, other, hour));
        now.pence.set(other, now.pence.get(other) - wage);
        now.pence.set(name, now.pence.get(name) + wage);
        return now.pence.get(other);
    }

    boolean fog(boolean is) {
        if (!isCity() || is == now.fog) {
            return false;
        }
        act();
        now.fog = is;
        return true;
    }

    boolean hoarse(int name) {
        if (!stands(name) || now.hoarse.contains(name)) {
            return false;
        }
        act();
        now.hoarse.add(name);
        return true;
    }

    private boolean mayPass(int n) {
        return isCity() && n >= 1 && n <= 60 && now.day + n <= 9999;
    }

    int evening(int n) {
        if (!mayPass(n)) {
            return NONE;
        }
        for (int i = 0; i < n; i++) {
            act();
            pass();
        }
        return now.day;
    }

    private List<Integer> depthsBehind() {
        List<Integer> behind = new ArrayList<>();
        for (int name = 0; name < people.size(); name++) {
            int depth = now.depth.get(name);
            behind.add(depth == 0 ? 0 : held(depth + gets(name, heard()) - lossNow(name)));
        }
        return behind;
    }

    private void pass() {
        int before = bits(standing());
        int heard = heard().size();
        now.depth = depthsBehind();
        int sum = 0;
        for (int depth : now.depth) {
            sum += depth;
        }
        now.log.add(new Entry(before & ~bits(standing()), heard, sum));
        if (now.log.size() > 60) {
            now.log.remove(0);
        }
        now.day++;
        now.shouts.clear();
        now.hoarse.clear();
        now.fog = false;
    }

    boolean fogs(int v) {
        boolean is = v >= 0 && v <= 99 && v != fogs;
        fogs = is ? v : fogs;
        return is;
    }

    boolean colds(int v) {
        boolean is = v >= 0 && v <= 99 && v != colds;
        colds = is ? v : colds;
        return is;
    }

    private BigInteger x;

    private int draw(int m) {
        BigInteger round = BigInteger.ONE.shiftLeft(64);
        x = x.multiply(new BigInteger("6364136223846793005")).add(new BigInteger("1442695040888963407")).mod(round);
        return x.shiftRight(33).mod(BigInteger.valueOf(m)).intValue();
    }

    int centuries(int n, long seed) {
        if (!mayPass(n)) {
            return NONE;
        }
        x = BigInteger.valueOf(seed).mod(BigInteger.ONE.shiftLeft(64));
        for (int i = 0; i < n; i++) {
            act();
            now.fog = draw(100) < fogs || now.fog;
            for (int name : standing()) {
                if (draw(100) < colds) {
                    now.hoarse.add(name);
                }
            }
            for (int name : standing()) {
                for (int other : standing()) {
                    if (shoutBy(name) == null && areTied(name, other)) {
                        now.shouts.add(new Shout(name, other, draw(hours)));
                    }
                }
            }
            pass();
        }
        return now.day;
    }

    int undo() {
        if (acts.isEmpty()) {
            return NONE;
        }
        now = acts.removeLast();
        return acts.size();
    }

    int log(int i, int what) {
        if (i < 0 || i >= now.log.size() || what < 0 || what > 2) {
            return NONE;
        }
        Entry entry = now.log.get(now.log.size() - 1 - i);
        return what == 0 ? entry.gone : what == 1 ? entry.heard : entry.depths;
    }

    int alone(int name) {
        if (!stands(name)) {
            return NONE;
        }
        int depth = now.depth.get(name);
        for (int n = 1; n <= 200; n++) {
            depth = held(depth - loss(name, depth, now.day + n - 1, 0));
            if (depth == 0) {
                return n;
            }
        }
        return NONE;
    }

    int keep(int names, int what) {
        if (what < 0 || what > 1 || names == 0 || (names & ~bits(standing())) != 0) {
            return NONE;
        }
        List<Integer> who = standing();
        if (who.size() > 6) {
            return HIDDEN;
        }
        int leastWages = Integer.MAX_VALUE;
        int leastDigits = Integer.MAX_VALUE;
        int all = 1;
        for (int i = 0; i < who.size(); i++) {
            all *= who.size();
        }
        for (int plan = 0; plan < all; plan++) {
            List<Shout> shouts = new ArrayList<>();
            int digits = 0;
            int left = plan;
            boolean isGood = true;
            for (int i = 0; i < who.size(); i++) {
                // One's own place among those who STAND means nobody.
                int of = left % who.size();
                left /= who.size();
                digits = digits * 10 + (of == i ? 9 : who.get(of));
                if (of != i) {
                    shouts.add(new Shout(who.get(i), who.get(of), shouts.size() / drown));
                }
            }
            isGood = shouts.size() <= hours * drown;
            int wages = 0;
            for (int name : who) {
                int pays = 0;
                for (Shout shout : shouts) {
                    pays += shout.of == name && !areTied(name, shout.by) ? people.get(shout.by).wage : 0;
                }
                wages += pays;
                isGood &= pays <= now.pence.get(name);
            }
            if (!isGood || wages > leastWages || wages == leastWages && digits > leastDigits) {
                continue;
            }
            for (int name : who) {
                if ((names >> name & 1) == 1) {
                    isGood &= gets(name, shouts) >= loss(name, now.depth.get(name), now.day, times(name, shouts));
                }
            }
            if (isGood) {
                leastWages = wages;
                leastDigits = digits;
            }
        }
        return leastWages == Integer.MAX_VALUE ? NONE : what == 0 ? leastDigits : leastWages;
    }

    int ring(int names) {
        List<Integer> who = standing();
        who.removeIf(name -> (names >> name & 1) == 0);
        if (bits(who) != names || who.size() < 2 || who.size() > 6) {
            return NONE;
        }
        int first = who.remove(0);
        int least = Integer.MAX_VALUE;
        for (List<Integer> order : orders(who)) {
            int digits = first;
            int by = first;
            boolean isGood = true;
            for (int of : order) {
                isGood &= voice(by) >= loss(of, now.depth.get(of), now.day, 1);
                by = of;
                digits = digits * 10 + of;
            }
            if (isGood && voice(by) >= loss(first, now.depth.get(first), now.day, 1)) {
                least = Math.min(least, digits);
            }
        }
        return least == Integer.MAX_VALUE ? NONE : least;
    }

    private static List<List<Integer>> orders(List<Integer> of) {
        if (of.isEmpty()) {
            return List.of(List.of());
        }
        List<List<Integer>> orders = new ArrayList<>();
        for (List<Integer> shorter : orders(of.subList(1, of.size()))) {
            for (int at = 0; at <= shorter.size(); at++) {
                List<Integer> order = new ArrayList<>(shorter);
                order.add(at, of.get(0));
                orders.add(order);
            }
        }
        return orders;
    }

    int price(int name, int what) {
        if (!stands(name) || what < 0 || what > 1) {
            return NONE;
        }
        int leastWages = Integer.MAX_VALUE;
        int leastBits = 0;
        for (int set = 255; set >= 0; set--) {
            int voices = 0;
            int wages = 0;
            boolean isGood = true;
            for (int other = 0; other < 8; other++) {
                if ((set >> other & 1) == 1) {
                    isGood &= stands(other) && other != name;
                    voices += isGood ? voice(other) : 0;
                    wages += isGood && !areTied(name, other) ? people.get(other).wage : 0;
                }
            }
            if (isGood && voices >= lossNow(name) && wages <= leastWages) {
                leastWages = wages;
                leastBits = set;
            }
        }
        return leastWages == Integer.MAX_VALUE ? NONE : what == 0 ? leastWages : leastBits;
    }

    int packed() {
        return isCity() ? pack(0, new ArrayList<>()) : NONE;
    }

    private int pack(int next, List<List<Integer>> laid) {
        if (next == now.shouts.size()) {
            return laid.size();
        }
        int of = now.shouts.get(next).of;
        int least = Integer.MAX_VALUE;
        for (List<Integer> hour : new ArrayList<>(laid)) {
            boolean isFree = hour.size() < drown;
            for (int other : hour) {
                isFree &= other != of && !areLike(of, other);
            }
            if (isFree) {
                hour.add(of);
                least = Math.min(least, pack(next + 1, laid));
                hour.remove(hour.size() - 1);
            }
        }
        laid.add(new ArrayList<>(List.of(of)));
        least = Math.min(least, pack(next + 1, laid));
        laid.remove(laid.size() - 1);
        return least;
    }

    int weak() {
        List<Integer> weak = new ArrayList<>();
        for (int name : standing()) {
            int friends = 0;
            for (int other : standing()) {
                friends += areTied(name, other) ? 1 : 0;
            }
            if (friends == 1) {
                weak.add(name);
            }
        }
        return isCity() ? bits(weak) : NONE;
    }

    private int[] partNumbers(List<Integer> among) {
        int[] part = {0, 1, 2, 3, 4, 5, 6, 7};
        for (int one : among) {
            for (int other : among) {
                if (areTied(one, other)) {
                    int from = part[one];
                    int to = part[other];
                    for (int i = 0; i < 8; i++) {
                        part[i] = part[i] == from ? to : part[i];
                    }
                }
            }
        }
        return part;
    }

    private int partsOf(List<Integer> among) {
        Set<Integer> parts = new HashSet<>();
        for (int name : among) {
            parts.add(partNumbers(among)[name]);
        }
        return parts.size();
    }

    int parts() {
        return isCity() ? partsOf(standing()) : NONE;
    }

    int bridges() {
        List<Integer> bridges = new ArrayList<>();
        for (int name : standing()) {
            List<Integer> others = standing();
            others.remove((Integer) name);
            if (partsOf(others) > partsOf(standing())) {
                bridges.add(name);
            }
        }
        return isCity() ? bits(bridges) : NONE;
    }

    int bond() {
        int most = -1;
        int bond = NONE;
        int[] part = partNumbers(standing());
        List<Integer> falling = standing();
        Collections.reverse(falling);
        for (int one : falling) {
            for (int other : falling) {
                int voices = people.get(one).voice + people.get(other).voice;
                if (one < other && part[one] != part[other] && voices >= most) {
                    most = voices;
                    bond = 10 * one + other;
                }
            }
        }
        return bond;
    }

    int dent(int place, int letter, boolean is) {
        if (place < 0 || place > 2 || letter < 0 || letter > 4 || dents.size() == 12) {
            return NONE;
        }
        dents.add(new int[] {place, letter, is ? 1 : 0});
        return dents.size();
    }

    private List<String> fitting() {
        List<String> fitting = new ArrayList<>();
        for (int number = 0; number < 500; number++) {
            String digits = String.format("%03d", number);
            boolean fits = digits.matches("[0-4]{3}");
            for (int[] dent : dents) {
                fits &= (digits.charAt(dent[0]) == '0' + dent[1]) == (dent[2] == 1);
            }
            if (fits) {
                fitting.add(digits);
            }
        }
        return fitting;
    }

    int fits(int i) {
        List<String> fitting = fitting();
        return i == -1 ? fitting.size() : i < 0 || i >= fitting.size() ? NONE : Integer.parseInt(fitting.get(i));
    }

    int best() {
        List<String> fitting = fitting();
        int best = NONE;
        int least = Integer.MAX_VALUE;
        for (int code : new int[] {0, 1, 2, 3, 4, 10, 11, 12, 13, 14, 20, 21, 22, 23, 24}) {
            int yes = 0;
            int no = 0;
            for (String digits : fitting) {
                if (digits.charAt(code / 10) - '0' == code % 10) {
                    yes++;
                } else {
                    no++;
                }
            }
            if (!fitting.isEmpty() && Math.abs(yes - no) < least) {
                least = Math.abs(yes - no);
                best = code;
            }
        }
        return best;
    }

    private int share(int name, int x, int y) {
        int crowd = x == y ? 1 + drown : 1;
        for (Shout shout : now.shouts) {
            crowd += shout.hour == x ? 1 : 0;
        }
        return crowd <= drown ? voice(name) : 0;
    }

    int rival(int name, int x, int y) {
        if (!stands(name) || shoutBy(name) != null || x < 0 || y < 0 || x >= hours || y >= hours) {
            return HIDDEN;
        }
        return share(name, x, y);
    }

    int rests(int name, int i) {
        if (!stands(name) || shoutBy(name) != null) {
            return NONE;
        }
        List<Integer> rests = new ArrayList<>();
        for (int x = 0; x < hours; x++) {
            for (int y = 0; y < hours; y++) {
                boolean isRest = true;
                for (int z = 0; z < hours; z++) {
                    isRest &= share(name, z, y) <= share(name, x, y) && share(name, x, z) >= share(name, x, y);
                }
                if (isRest) {
                    rests.add(10 * x + y);
                }
            }
        }
        return i == -1 ? rests.size() : i < 0 || i >= rests.size() ? NONE : rests.get(i);
    }

    int odds(int name, int n, int v, int chance) {
        if (!stands(name) || n < 0 || n > 30 || v < 0 || v > 9 || chance < 0 || chance > 100) {
            return NONE;
        }
        Map<Integer, Long> parts = new TreeMap<>(Map.of(now.depth.get(name), 1000000000L));
        for (int day = now.day; day < now.day + n; day++) {
            Map<Integer, Long> next = new TreeMap<>();
            for (Map.Entry<Integer, Long> part : parts.entrySet()) {
                int depth = part.getKey();
                long fog = part.getValue() * chance / 100;
                next.merge(held(depth - loss(name, depth, day, 0)), fog, Long::sum);
                next.merge(held(depth + v - loss(name, depth, day, 1)), part.getValue() - fog, Long::sum);
            }
            next.remove(0);
            parts = next;
        }
        long all = 0;
        for (long part : parts.values()) {
            all += part;
        }
        return (int) all;
    }

    int need(int name) {
        if (!stands(name)) {
            return NONE;
        }
        int depth = now.depth.get(name);
        for (int v = 0; v <= 99; v++) {
            if (held(depth + v - loss(name, depth, now.day, 1)) >= depth) {
                return v;
            }
        }
        throw new IllegalStateException("no VOICE is enough");
    }

    int sharpest() {
        int best = NONE;
        for (int name : standing()) {
            best = best == NONE || now.depth.get(name) > now.depth.get(best) ? name : best;
        }
        return best;
    }

    int faintest() {
        int best = NONE;
        for (int name : standing()) {
            best = best == NONE || now.depth.get(name) < now.depth.get(best) ? name : best;
        }
        return best;
    }

    int richest() {
        int most = now.pence.isEmpty() ? NONE : Collections.max(now.pence);
        return now.pence.indexOf(most);
    }

    int friends(int name) {
        List<Integer> friends = new ArrayList<>();
        for (int other = 0; other < people.size(); other++) {
            if (areTied(name, other)) {
                friends.add(other);
            }
        }
        return is(name) ? bits(friends) : NONE;
    }

    int helped() {
        List<Integer> helped = standing();
        helped.removeIf(name -> gets(name, heard()) == 0);
        return isCity() ? bits(helped) : NONE;
    }

    int doomed() {
        List<Integer> doomed = standing();
        List<Integer> behind = depthsBehind();
        doomed.removeIf(name -> behind.get(name) > 0);
        return isCity() ? bits(doomed) : NONE;
    }

    int image() {
        if (!isCity()) {
            return NONE;
        }
        image = now.copy();
        return now.day;
    }

    int back() {
        if (image == null) {
            return NONE;
        }
        now = image.copy();
        acts.clear();
        return now.day;
    }

    int count(int what) {
        int[] counts = {people.size(), tieCount, laws.size(), tape.length(), law, now.day, now.fog ? 1 : 0,
            bits(standing()), now.shouts.size(), heard().size(), fogs, colds, dents.size(), now.log.size(),
            acts.size()};
        return what < 0 || what >= counts.length ? HIDDEN : counts[what];
    }
}
