import java.util.function.Supplier;

/**
 * "What is refused answers as told and changes nothing": each call that may be refused, in walls of many kinds. A wall
 * behind the refused call must tell the same as one like it that was never asked.
 */
public final class RefusedTest {
    private static final Check CHECK = new Check();
    private static final int NONE = NameWall.NONE;
    private static final int HIDDEN = NameWall.HIDDEN;
    private static final int FALSE = 0;
    private static final int THROWN = 999999;

    private final String where;
    private final Supplier<NameWall> made;
    private final String due;

    private interface Call {
        long on(NameWall wall);
    }

    private RefusedTest(String where, Supplier<NameWall> made) {
        this.where = where;
        this.made = made;
        this.due = Picture.of(made.get());
        NameWall asked = made.get();
        Picture.askOnly(asked);
        CHECK.due(where + ": questions change nothing", Picture.of(asked).equals(due), true);
    }

    public static void main(String[] args) {
        everywhere(new RefusedTest("no CITY, a LAW on the TAPE", RefusedTest::bareWithLaw));
        everywhere(new RefusedTest("no CITY, a CITY on the TAPE", RefusedTest::bareWithCity));
        everywhere(new RefusedTest("a busy DAY", RefusedTest::busy));
        everywhere(new RefusedTest("all is full", RefusedTest::full));
        everywhere(new RefusedTest("the last DAY", () -> late(39)));
        everywhere(new RefusedTest("no IMAGE", RefusedTest::plain));
        everywhere(new RefusedTest("all GONE", RefusedTest::gone));
        noCity(new RefusedTest("no CITY, a LAW on the TAPE", RefusedTest::bareWithLaw));
        noCity(new RefusedTest("no CITY, a CITY on the TAPE", RefusedTest::bareWithCity));
        onBusyDay(new RefusedTest("a busy DAY", RefusedTest::busy));
        whenFull(new RefusedTest("all is full", RefusedTest::full));
        onLastDays();
        withoutImage(new RefusedTest("no IMAGE", RefusedTest::plain));
        behindBack(new RefusedTest("behind BACK", () -> {
            NameWall wall = busy();
            wall.back();
            return wall;
        }));
        whenGone(new RefusedTest("all GONE", RefusedTest::gone));
        texts();
        CHECK.end();
    }

    private void refused(String what, long answer, Call call) {
        NameWall wall = made.get();
        CHECK.due(what + " (" + where + ")", call.on(wall), answer);
        CHECK.due(what + " changes nothing (" + where + ")", Picture.of(wall).equals(due), true);
    }

    private static long asNumber(boolean is) {
        return is ? 1 : 0;
    }

    private static NameWall bareWithLaw() {
        NameWall wall = new NameWall();
        wall.fogs(5);
        wall.colds(6);
        wall.dent(0, 1, false);
        Check.put(wall, "y:7");
        return wall;
    }

    private static NameWall bareWithCity() {
        NameWall wall = new NameWall();
        Check.lawful(wall, "y:d/2");
        Check.put(wall, "n;nw3;n");
        return wall;
    }

    /** NAME 4 is GONE; 0 and 3 have SHOUTED, 1 is HOARSE, there is FOG, 2 has no PENCE. */
    private static NameWall busy() {
        NameWall wall = Check.city("sr3h3d2c50;nv4k1g1p9w2i30;nv9g1p3w0i12;nv0w9p0i45;nv5g2w3p99;ni1g2;nv2w1i20;"
                + "tb2;ta1b2;ta3b5");
        Check.lawful(wall, "y:r+k+s");
        Check.lawful(wall, "y:y>2?d/2;y:2");
        wall.fogs(30);
        wall.colds(20);
        wall.dent(0, 1, false);
        wall.dent(2, 4, true);
        wall.shout(1, 0, 2);
        wall.evening(1);
        wall.shout(3, 1, 0);
        wall.image();
        wall.hoarse(5);
        wall.centuries(2, 9);
        wall.shout(0, 5, 1);
        wall.shout(3, 0, 2);
        wall.hoarse(1);
        wall.fog(true);
        Check.put(wall, "n;n;tb0;x");
        return wall;
    }

    /** 240 bytes on the TAPE, four LAWS, 12 DENTS, 40 ACTS, 60 DAYS of LOG; all eight STAND. */
    private static NameWall full() {
        NameWall wall = Check.city("sr0h1d1;nw0p0;nw9p0;n;n;n;n;n;n;tb7");
        for (int law = 0; law < 4; law++) {
            Check.lawful(wall, "y:" + law);
        }
        wall.law(-1);
        for (int dents = 0; dents < 12; dents++) {
            wall.dent(dents % 3, dents % 2, false);
        }
        wall.evening(60);
        wall.image();
        wall.evening(39);
        wall.shout(0, 1, 0);
        Check.put(wall, "y:5" + " ".repeat(237));
        return wall;
    }

    private static NameWall late(int evenings) {
        NameWall wall = Check.city("sr0;n;n;t");
        for (int sixties = 0; sixties < 166; sixties++) {
            wall.evening(60);
        }
        wall.image();
        wall.evening(evenings);
        return wall;
    }

    /** 230 bytes on the TAPE, ACTS but no IMAGE. */
    private static NameWall plain() {
        NameWall wall = Check.city("sr1;ni5w0;nw3p2;n;tb2");
        wall.evening(2);
        wall.shout(0, 1, 1);
        wall.fog(true);
        Check.put(wall, "n;n" + " ".repeat(227));
        return wall;
    }

    private static NameWall gone() {
        NameWall wall = Check.city("ni1;ni1p9;t");
        wall.evening(1);
        wall.image();
        wall.evening(1);
        return wall;
    }

    /** What is out of all bounds, in whatever wall. */
    private static void everywhere(RefusedTest test) {
        int[] beyond = {-1, 241, Integer.MIN_VALUE, Integer.MAX_VALUE};
        for (int n : beyond) {
            test.refused("P3 end " + n, FALSE, wall -> asNumber(wall.end(n)));
        }
        for (int sort : new int[] {-1, 2, Integer.MIN_VALUE, Integer.MAX_VALUE}) {
            test.refused("P4 fault " + sort, -2, wall -> wall.fault(sort));
            test.refused("P5 text " + sort, NONE, wall -> wall.text(sort));
        }
        for (int what : new int[] {-1, 4, Integer.MIN_VALUE, Integer.MAX_VALUE}) {
            test.refused("P6 square " + what, NONE, wall -> wall.square(what));
        }
        for (int what : new int[] {-1, 11, Integer.MIN_VALUE, Integer.MAX_VALUE}) {
            test.refused("P7 what " + what, THROWN, wall -> Picture.nameOf(wall, 0, what));
        }
        for (int law : new int[] {-2, 4, Integer.MIN_VALUE, Integer.MAX_VALUE}) {
            test.refused("P8 law " + law, FALSE, wall -> asNumber(wall.law(law)));
        }
        for (int name : new int[] {-1, 8, 32, Integer.MIN_VALUE, Integer.MAX_VALUE}) {
            noSuchName(test, name);
        }
        test.refused("P10 alike", NONE, wall -> wall.shout(0, 0, 0));
        for (int hour : new int[] {-1, 6, Integer.MIN_VALUE, Integer.MAX_VALUE}) {
            test.refused("P10 HOUR " + hour, NONE, wall -> wall.shout(2, 3, hour));
            test.refused("P31 HOUR x " + hour, HIDDEN, wall -> wall.rival(2, hour, 0));
            test.refused("P31 HOUR y " + hour, HIDDEN, wall -> wall.rival(2, 0, hour));
        }
        ofDays(test);
        ofPlans(test);
        ofFinds(test);
    }

    private static void noSuchName(RefusedTest test, int name) {
        test.refused("P7 name " + name, THROWN, wall -> Picture.nameOf(wall, name, 5));
        test.refused("P9 one " + name, NONE, wall -> wall.tied(name, 0));
        test.refused("P9 other " + name, NONE, wall -> wall.tied(0, name));
        test.refused("P10 name " + name, NONE, wall -> wall.shout(name, 0, 0));
        test.refused("P10 other " + name, NONE, wall -> wall.shout(2, name, 0));
        test.refused("P12 name " + name, FALSE, wall -> asNumber(wall.hoarse(name)));
        test.refused("P19 name " + name, NONE, wall -> wall.alone(name));
        test.refused("P22 name " + name, NONE, wall -> wall.price(name, 0));
        test.refused("P31 name " + name, HIDDEN, wall -> wall.rival(name, 0, 0));
        test.refused("P32 name " + name, NONE, wall -> wall.rests(name, -1));
        test.refused("P33 name " + name, NONE, wall -> wall.odds(name, 1, 1, 1));
        test.refused("P34 name " + name, NONE, wall -> wall.need(name));
        test.refused("P38 name " + name, NONE, wall -> wall.friends(name));
    }

    private static void ofDays(RefusedTest test) {
        for (int n : new int[] {-1, 0, 61, Integer.MIN_VALUE, Integer.MAX_VALUE}) {
            test.refused("P13 evening " + n, NONE, wall -> wall.evening(n));
            test.refused("P16 centuries " + n, NONE, wall -> wall.centuries(n, 1));
        }
        for (int v : new int[] {-1, 100, Integer.MIN_VALUE, Integer.MAX_VALUE}) {
            test.refused("P14 fogs " + v, FALSE, wall -> asNumber(wall.fogs(v)));
            test.refused("P15 colds " + v, FALSE, wall -> asNumber(wall.colds(v)));
        }
        test.refused("P14 it is so", FALSE, wall -> asNumber(wall.fogs(wall.count(10))));
        test.refused("P15 it is so", FALSE, wall -> asNumber(wall.colds(wall.count(11))));
        for (int i : new int[] {-1, 60, Integer.MIN_VALUE, Integer.MAX_VALUE}) {
            test.refused("P18 i " + i, NONE, wall -> wall.log(i, 0));
        }
        for (int what : new int[] {-1, 3, Integer.MIN_VALUE, Integer.MAX_VALUE}) {
            test.refused("P18 what " + what, NONE, wall -> wall.log(0, what));
        }
        for (int what : new int[] {-1, 15, Integer.MIN_VALUE, Integer.MAX_VALUE}) {
            test.refused("P43 what " + what, HIDDEN, wall -> wall.count(what));
        }
    }

    private static void ofPlans(RefusedTest test) {
        for (int set : new int[] {0, -1, 256, Integer.MIN_VALUE, Integer.MAX_VALUE}) {
            test.refused("P21 set " + set, NONE, wall -> wall.ring(set));
        }
        test.refused("P21 one alone", NONE, wall -> wall.ring(4));
        for (int what : new int[] {-1, 2, Integer.MIN_VALUE, Integer.MAX_VALUE}) {
            test.refused("P22 what " + what, NONE, wall -> wall.price(0, what));
        }
        for (int n : new int[] {-1, 31, Integer.MIN_VALUE, Integer.MAX_VALUE}) {
            test.refused("P33 n " + n, NONE, wall -> wall.odds(0, n, 1, 1));
        }
        for (int v : new int[] {-1, 10, Integer.MIN_VALUE, Integer.MAX_VALUE}) {
            test.refused("P33 v " + v, NONE, wall -> wall.odds(0, 1, v, 1));
        }
        for (int chance : new int[] {-1, 101, Integer.MIN_VALUE, Integer.MAX_VALUE}) {
            test.refused("P33 chance " + chance, NONE, wall -> wall.odds(0, 1, 1, chance));
        }
    }

    private static void ofFinds(RefusedTest test) {
        for (int place : new int[] {-1, 3, Integer.MIN_VALUE, Integer.MAX_VALUE}) {
            test.refused("P28 place " + place, NONE, wall -> wall.dent(place, 0, true));
        }
        for (int letter : new int[] {-1, 5, Integer.MIN_VALUE, Integer.MAX_VALUE}) {
            test.refused("P28 letter " + letter, NONE, wall -> wall.dent(0, letter, true));
        }
        for (int i : new int[] {-2, 125, Integer.MIN_VALUE, Integer.MAX_VALUE}) {
            test.refused("P29 i " + i, NONE, wall -> wall.fits(i));
        }
        for (int i : new int[] {-2, 36, Integer.MIN_VALUE, Integer.MAX_VALUE}) {
            test.refused("P32 i " + i, NONE, wall -> wall.rests(2, i));
        }
    }

    private static void noCity(RefusedTest test) {
        for (int what = 0; what < 4; what++) {
            int of = what;
            test.refused("P6 square " + what, NONE, wall -> wall.square(of));
        }
        for (int what = 0; what <= 10; what++) {
            int of = what;
            test.refused("P7 name 0 " + what, THROWN, wall -> Picture.nameOf(wall, 0, of));
        }
        test.refused("P9 tied", NONE, wall -> wall.tied(0, 1));
        test.refused("P10 shout", NONE, wall -> wall.shout(0, 1, 0));
        test.refused("P11 fog comes", FALSE, wall -> asNumber(wall.fog(true)));
        test.refused("P11 fog lifts", FALSE, wall -> asNumber(wall.fog(false)));
        test.refused("P12 hoarse", FALSE, wall -> asNumber(wall.hoarse(0)));
        test.refused("P13 evening", NONE, wall -> wall.evening(1));
        test.refused("P16 centuries", NONE, wall -> wall.centuries(1, 1));
        test.refused("P17 undo", NONE, wall -> wall.undo());
        test.refused("P18 log", NONE, wall -> wall.log(0, 0));
        test.refused("P19 alone", NONE, wall -> wall.alone(0));
        test.refused("P20 keep", NONE, wall -> wall.keep(1, 0));
        test.refused("P21 ring", NONE, wall -> wall.ring(3));
        test.refused("P22 price", NONE, wall -> wall.price(0, 0));
        test.refused("P23 packed", NONE, wall -> wall.packed());
        test.refused("P24 weak", NONE, wall -> wall.weak());
        test.refused("P25 parts", NONE, wall -> wall.parts());
        test.refused("P26 bridges", NONE, wall -> wall.bridges());
        test.refused("P27 bond", NONE, wall -> wall.bond());
        test.refused("P31 rival", HIDDEN, wall -> wall.rival(0, 0, 0));
        test.refused("P32 rests", NONE, wall -> wall.rests(0, -1));
        test.refused("P33 odds", NONE, wall -> wall.odds(0, 0, 0, 0));
        test.refused("P34 need", NONE, wall -> wall.need(0));
        test.refused("P35 sharpest", NONE, wall -> wall.sharpest());
        test.refused("P36 faintest", NONE, wall -> wall.faintest());
        test.refused("P37 richest", NONE, wall -> wall.richest());
        test.refused("P38 friends", NONE, wall -> wall.friends(0));
        test.refused("P39 helped", NONE, wall -> wall.helped());
        test.refused("P40 doomed", NONE, wall -> wall.doomed());
        test.refused("P41 image", NONE, wall -> wall.image());
        test.refused("P42 back", NONE, wall -> wall.back());
    }

    private static void onBusyDay(RefusedTest test) {
        CHECK.due("a busy DAY: all but NAME 4 STAND", busy().count(7), 47);
        test.refused("P3 end beyond", FALSE, wall -> asNumber(wall.end(10)));
        test.refused("P5 text of a FAULT", NONE, wall -> wall.text(0));
        test.refused("P5 text of a FAULT", NONE, wall -> wall.text(1));
        test.refused("P7 the first NAME that is not", THROWN, wall -> Picture.nameOf(wall, 6, 0));
        test.refused("P8 the first LAW that is not", FALSE, wall -> asNumber(wall.law(2)));
        test.refused("P9 the first NAME that is not", NONE, wall -> wall.tied(6, 0));
        test.refused("P9 the first NAME that is not", NONE, wall -> wall.tied(0, 6));
        test.refused("P10 the first NAME that is not", NONE, wall -> wall.shout(6, 0, 0));
        test.refused("P10 the first NAME that is not", NONE, wall -> wall.shout(5, 6, 0));
        test.refused("P10 a GONE one SHOUTS", NONE, wall -> wall.shout(4, 0, 0));
        test.refused("P10 a GONE one is SHOUTED", NONE, wall -> wall.shout(5, 4, 0));
        test.refused("P10 it has SHOUTED", NONE, wall -> wall.shout(0, 5, 0));
        test.refused("P10 the first HOUR that is not", NONE, wall -> wall.shout(5, 3, 3));
        test.refused("P10 too few PENCE: 1 of 0", NONE, wall -> wall.shout(5, 2, 0));
        test.refused("P10 too few PENCE: 9 of 3", NONE, wall -> wall.shout(2, 5, 0));
        test.refused("P11 it is so", FALSE, wall -> asNumber(wall.fog(true)));
        test.refused("P12 it is", FALSE, wall -> asNumber(wall.hoarse(1)));
        test.refused("P12 GONE", FALSE, wall -> asNumber(wall.hoarse(4)));
        test.refused("P12 the first NAME that is not", FALSE, wall -> asNumber(wall.hoarse(6)));
        test.refused("P18 the first DAY that is not", NONE, wall -> wall.log(3, 0));
        test.refused("P19 GONE", NONE, wall -> wall.alone(4));
        test.refused("P20 nobody", NONE, wall -> wall.keep(0, 0));
        test.refused("P20 a GONE one", NONE, wall -> wall.keep(17, 0));
        test.refused("P20 the first NAME that is not", NONE, wall -> wall.keep(65, 0));
        test.refused("P20 no such what", NONE, wall -> wall.keep(1, 2));
        test.refused("P20 no such what", NONE, wall -> wall.keep(1, -1));
        test.refused("P20 there is none", NONE, wall -> wall.keep(47, 0));
        test.refused("P21 a GONE one", NONE, wall -> wall.ring(17));
        test.refused("P21 there is none", NONE, wall -> wall.ring(6));
        test.refused("P22 GONE", NONE, wall -> wall.price(4, 1));
        test.refused("P22 all are not enough", NONE, wall -> wall.price(2, 1));
        test.refused("P31 GONE", HIDDEN, wall -> wall.rival(4, 0, 0));
        test.refused("P31 it has SHOUTED", HIDDEN, wall -> wall.rival(0, 0, 0));
        test.refused("P31 the first HOUR that is not", HIDDEN, wall -> wall.rival(5, 3, 0));
        test.refused("P31 the first HOUR that is not", HIDDEN, wall -> wall.rival(5, 0, 3));
        test.refused("P32 GONE", NONE, wall -> wall.rests(4, -1));
        test.refused("P32 it has SHOUTED", NONE, wall -> wall.rests(0, -1));
        test.refused("P32 the first one that is not", NONE, wall -> wall.rests(5, wall.rests(5, -1)));
        test.refused("P33 GONE", NONE, wall -> wall.odds(4, 0, 0, 0));
        test.refused("P34 GONE", NONE, wall -> wall.need(4));
        test.refused("P38 the first NAME that is not", NONE, wall -> wall.friends(6));
    }

    private static void whenFull(RefusedTest test) {
        NameWall full = full();
        int[] counts = {8, 1, 4, 240, -1, 99, 0, 255, 1, 1, 0, 0, 12, 60, 40};
        for (int what = 0; what < counts.length; what++) {
            CHECK.due("all is full: count " + what, full.count(what), counts[what]);
        }
        test.refused("P2 one byte more", NONE, wall -> wall.feed(0, 0, 0, 0, 1));
        test.refused("P2 one byte more", NONE, wall -> wall.feed('n' << 24, 0, 0, 0, 0));
        test.refused("P2 twenty bytes more", NONE, wall -> wall.feed(-1, -1, -1, -1, -1));
        test.refused("P5 four LAWS", NONE, wall -> wall.text(1));
        test.refused("P5 not a CITY", NONE, wall -> wall.text(0));
        test.refused("P10 it has SHOUTED", NONE, wall -> wall.shout(0, 2, 0));
        test.refused("P10 too few PENCE by 9", NONE, wall -> wall.shout(1, 0, 0));
        test.refused("P10 HOUR 1 of one", NONE, wall -> wall.shout(2, 3, 1));
        test.refused("P11 it is so", FALSE, wall -> asNumber(wall.fog(false)));
        test.refused("P19 not within 200", NONE, wall -> wall.alone(0));
        test.refused("P20 eight STAND", HIDDEN, wall -> wall.keep(1, 0));
        test.refused("P20 eight STAND", HIDDEN, wall -> wall.keep(255, 1));
        test.refused("P21 seven", NONE, wall -> wall.ring(127));
        test.refused("P28 there are 12", NONE, wall -> wall.dent(0, 4, true));
    }

    private static void onLastDays() {
        RefusedTest near = new RefusedTest("DAY 9,990", () -> late(30));
        CHECK.due("DAY 9,990", late(30).count(5), 9990);
        near.refused("P13 one beyond 9,999", NONE, wall -> wall.evening(10));
        near.refused("P13 far beyond 9,999", NONE, wall -> wall.evening(60));
        near.refused("P16 one beyond 9,999", NONE, wall -> wall.centuries(10, 1));
        near.refused("P16 far beyond 9,999", NONE, wall -> wall.centuries(60, 1));
        RefusedTest test = new RefusedTest("the last DAY", () -> late(39));
        CHECK.due("the last DAY", late(39).count(5), 9999);
        test.refused("P13 beyond 9,999", NONE, wall -> wall.evening(1));
        test.refused("P13 far beyond 9,999", NONE, wall -> wall.evening(60));
        test.refused("P16 beyond 9,999", NONE, wall -> wall.centuries(1, 1));
        test.refused("P16 far beyond 9,999", NONE, wall -> wall.centuries(60, 1));
    }

    private static void withoutImage(RefusedTest test) {
        test.refused("P2 eleven bytes onto 230", NONE, wall -> wall.feed(-1, -1, 0xffffff, 0, 0));
        test.refused("P2 twenty bytes onto 230", NONE, wall -> wall.feed(-1, -1, -1, -1, -1));
        test.refused("P3 end beyond 230", FALSE, wall -> asNumber(wall.end(231)));
        test.refused("P42 no IMAGE", NONE, wall -> wall.back());
    }

    private static void behindBack(RefusedTest test) {
        test.refused("P17 none", NONE, wall -> wall.undo());
        test.refused("P17 none, twice", 2 * NONE, wall -> wall.undo() + wall.undo());
        test.refused("P42 it is so again", 0, wall -> wall.back() - wall.count(5));
    }

    private static void whenGone(RefusedTest test) {
        test.refused("P10 GONE", NONE, wall -> wall.shout(0, 1, 0));
        test.refused("P11 it is so", FALSE, wall -> asNumber(wall.fog(false)));
        test.refused("P12 GONE", FALSE, wall -> asNumber(wall.hoarse(0)));
        test.refused("P19 GONE", NONE, wall -> wall.alone(1));
        test.refused("P20 GONE", NONE, wall -> wall.keep(1, 0));
        test.refused("P21 GONE", NONE, wall -> wall.ring(3));
        test.refused("P22 GONE", NONE, wall -> wall.price(0, 0));
        test.refused("P27 all GONE", NONE, wall -> wall.bond());
        test.refused("P31 GONE", HIDDEN, wall -> wall.rival(0, 0, 0));
        test.refused("P32 GONE", NONE, wall -> wall.rests(0, -1));
        test.refused("P33 GONE", NONE, wall -> wall.odds(0, 0, 0, 0));
        test.refused("P34 GONE", NONE, wall -> wall.need(0));
        test.refused("P35 all GONE", NONE, wall -> wall.sharpest());
        test.refused("P36 all GONE", NONE, wall -> wall.faintest());
    }

    /** FAULTS found late, behind much that is right: neither fault() nor a refused text() leaves anything of it. */
    private static void texts() {
        String[] late = {"sr9c99h6d4;nv9k3g4p99w9i99;n;n;n;n;n;n;n;tb7;ta6;ta0b0", "nv9g1;nv9g1;nv9g1;nv9g1;tb3;x",
            "sc1;n;n", "n;n;n;n;n;n;n;n;n", "", "y:[[[[[[[d]]]]]]]", "y:r;y:d=1?9;y:8=8", "y:" + "d+".repeat(119)};
        for (String text : late) {
            RefusedTest test = new RefusedTest("a busy DAY with '" + text + "'", () -> {
                NameWall wall = busy();
                wall.end(0);
                Check.put(wall, text);
                return wall;
            });
            for (int sort = 0; sort < 2; sort++) {
                int of = sort;
                NameWall wall = test.made.get();
                CHECK.due("P4 a FAULT: " + text, wall.fault(of) >= 0, true);
                test.refused("P5 text " + sort, NONE, asked -> asked.text(of));
            }
        }
        for (String text : new String[] {"sr9c99h6d4;nv9k3;n;tb0a1", "y:99;y:d"}) {
            RefusedTest test = new RefusedTest("a busy DAY with '" + text + "'", () -> {
                NameWall wall = busy();
                wall.end(0);
                Check.put(wall, text);
                return wall;
            });
            int right = text.charAt(0) == 'y' ? 1 : 0;
            test.refused("P4 a right text is not taken by fault()", NONE, wall -> wall.fault(right));
            test.refused("P5 of the other sort", NONE, wall -> wall.text(1 - right));
        }
    }
}
