import java.math.BigInteger;

/**
 * Promises 6 to 18 and 41 to 43, Terms 2 and 4, at each bound that the document names. A comment quotes the sentence
 * that is tested.
 */
public final class DayEdgeTest {
    private static final Check CHECK = new Check();
    private static final int NONE = NameWall.NONE;
    private static final int HIDDEN = NameWall.HIDDEN;

    public static void main(String[] args) {
        squares();
        names();
        losses();
        holding();
        tied();
        shoutedHours();
        paid();
        whoCanShout();
        heard();
        gets();
        fog();
        hoarse();
        standing();
        heldByCut();
        eveningBounds();
        lastDay();
        fogsAndColds();
        loggedDays();
        logBounds();
        acts();
        actsOfEachKind();
        imageBounds();
        imageOfLog();
        counts();
        fiveHundredAndTwelve();
        centuryBounds();
        drawnBelow();
        drawsGoRound();
        whoDraws();
        CHECK.end();
    }

    private static void days(NameWall wall, int days) {
        for (int left = days; left > 0; left -= 60) {
            wall.evening(Math.min(left, 60));
        }
    }

    /** "0 RAIN, 1 CUT, 2 HOURS, 3 DROWN. NONE: no CITY, no such what." */
    private static void squares() {
        NameWall wall = Check.city("sr0c99h6d1;n;n");
        int[] due = {NONE, 0, 99, 6, 1, NONE};
        for (int what = -1; what <= 4; what++) {
            CHECK.due("P6 square " + what, wall.square(what), due[what + 1]);
            CHECK.due("P6 no CITY: square " + what, new NameWall().square(what), NONE);
        }
    }

    /** "NoSuchElementException: no such ones." "DEPTH 0 of a GONE one", "a GONE one: 0". */
    private static void names() {
        NameWall wall = Check.city("nv1;nv2;nv8");
        CHECK.noSuch("P7 name -1", wall, -1, 0);
        CHECK.due("P7 the first NAME", wall.name(0, 0), 1);
        CHECK.due("P7 the last NAME", wall.name(2, 0), 8);
        CHECK.noSuch("P7 the first that is not", wall, 3, 0);
        CHECK.noSuch("P7 what -1", wall, 0, -1);
        CHECK.due("P7 the first what", wall.name(0, 0), 1);
        CHECK.due("P7 the last what", wall.name(0, 10), 0);
        CHECK.noSuch("P7 what 11", wall, 0, 11);
        CHECK.noSuch("P7 neither", wall, 3, 11);
        NameWall eight = Check.city("n;n;n;n;n;n;n;nv7");
        CHECK.due("P7 NAME 7", eight.name(7, 0), 7);
        CHECK.noSuch("P7 name 8", eight, 8, 0);
        NameWall gone = Check.city("ni1v9g1k3;nw0g1", "y:d*9+y+k");
        CHECK.due("P7 LOSS by DEPTH 1", gone.name(0, 9), 12);
        gone.evening(1);
        CHECK.due("P7 LOSS by DEPTH 0 of a GONE one", gone.name(0, 9), 4);
        NameWall told = Check.city("sr0;ni1v9g1k3;nw0g1;nw0");
        told.evening(1);
        told.shout(2, 1, 3);
        CHECK.due("P7 a GONE one gets nothing of a LIKE one", told.name(0, 10), 0);
        CHECK.due("P7 a GONE one's VOICE is told", told.name(0, 0), 9);
        CHECK.due("P7 a GONE one SHOUTED nobody", told.name(0, 6), NONE);
        CHECK.due("P7 in no HOUR", told.name(0, 7), NONE);
        CHECK.due("P7 HOUR 3, the last", told.name(2, 7), 3);
        told.evening(1);
        told.shout(1, 2, 0);
        CHECK.due("P7 HOUR 0 is one", told.name(1, 7), 0);
        CHECK.due("P7 whom", told.name(1, 6), 2);
    }

    /** "LOSS: WORTH by the LAW that holds (none at first: RAIN and KIND), held within 0 .. 99". */
    private static void losses() {
        CHECK.due("P7 the least without a LAW", Check.city("sr0;nk0;n").name(0, 9), 0);
        CHECK.due("P7 the greatest without a LAW", Check.city("sr9;nk3;n").name(0, 9), 12);
        int[] worth = {-9999, -1, 0, 1, 98, 99, 100, 9999};
        int[] loss = {0, 0, 0, 1, 98, 99, 99, 99};
        for (int i = 0; i < worth.length; i++) {
            NameWall wall = Check.city("ni99;n;sc99", "y:" + (worth[i] < 0 ? "0-" + -worth[i] : "" + worth[i]));
            CHECK.due("P7 LOSS of WORTH " + worth[i], wall.name(0, 9), loss[i]);
            wall.evening(1);
            CHECK.due("P13 DEPTH less LOSS of WORTH " + worth[i], wall.name(0, 5), 99 - loss[i]);
        }
        NameWall letters = Check.city("sr9h6d4;ni40k3p99w9;nw0;nw0;nw0;nw0", "y:d+k+r+y+s");
        CHECK.due("P7 the greatest letters", letters.name(0, 9), 52);
        for (int by = 1; by <= 4; by++) {
            letters.shout(by, 0, 5);
            CHECK.due("P7 s by " + by, letters.name(0, 9), 52 + by);
        }
        CHECK.due("P7 s of nobody", letters.name(1, 9), 29);
    }

    /** "The LAW that holds (NONE: none). False: no such one." */
    private static void holding() {
        NameWall wall = new NameWall();
        CHECK.due("P8 none of none", wall.law(NONE), true);
        CHECK.due("P8 LAW 0 of none", wall.law(0), false);
        CHECK.due("P8 below none", wall.law(-2), false);
        Check.put(wall, "y:1");
        wall.text(1);
        CHECK.due("P8 a LAW does not hold by itself", wall.count(4), NONE);
        CHECK.due("P8 LAW 0 of one", wall.law(0), true);
        CHECK.due("P8 LAW 1 of one", wall.law(1), false);
        CHECK.due("P8 it still holds", wall.count(4), 0);
        for (int law = 1; law < 4; law++) {
            Check.put(wall, "y:1");
            wall.text(1);
        }
        CHECK.due("P8 LAW 3 of four", wall.law(3), true);
        CHECK.due("P8 LAW 4 of four", wall.law(4), false);
        CHECK.due("P8 below none", wall.law(-2), false);
        CHECK.due("P8 it still holds", wall.count(4), 3);
        CHECK.due("P8 none", wall.law(-1), true);
        CHECK.due("P8 none holds", wall.count(4), NONE);
    }

    /** "Whether two are TIED (1, 0). NONE: no such ones." */
    private static void tied() {
        NameWall wall = Check.city("n;n;n;n;n;n;n;n;ta7b0");
        CHECK.due("P9 the last and the first", wall.tied(7, 0), 1);
        CHECK.due("P9 the first and the last", wall.tied(0, 7), 1);
        CHECK.due("P9 others", wall.tied(6, 7), 0);
        CHECK.due("P9 one -1", wall.tied(-1, 7), NONE);
        CHECK.due("P9 one 8", wall.tied(8, 0), NONE);
        CHECK.due("P9 other -1", wall.tied(7, -1), NONE);
        CHECK.due("P9 other 8", wall.tied(0, 8), NONE);
        NameWall two = Check.city("n;n;t");
        CHECK.due("P9 the last of two", two.tied(0, 1), 1);
        CHECK.due("P9 the first that is not", two.tied(0, 2), NONE);
        CHECK.due("P9 the first that is not", two.tied(2, 1), NONE);
    }

    /** "in an HOUR (0 .. HOURS less 1)"; "NONE: no such HOUR". */
    private static void shoutedHours() {
        for (int hours = 1; hours <= 6; hours++) {
            NameWall wall = Check.city("sh" + hours + ";nw0;nw0");
            CHECK.due("P10 HOUR -1 of " + hours, wall.shout(0, 1, -1), NONE);
            CHECK.due("P10 HOUR " + hours + " of " + hours, wall.shout(0, 1, hours), NONE);
            CHECK.due("P10 nobody has SHOUTED", wall.count(8), 0);
            CHECK.due("P10 the last HOUR of " + hours, wall.shout(0, 1, hours - 1), 5);
            CHECK.due("P10 HOUR 0 of " + hours, wall.shout(1, 0, 0), 5);
            CHECK.due("P10 the last HOUR is told", wall.name(0, 7), hours - 1);
        }
    }

    /** "who is SHOUTED pays the WAGE of who SHOUTS to that one at once (TIED ones nothing)"; "too few PENCE". */
    private static void paid() {
        for (int wage = 0; wage <= 9; wage++) {
            NameWall just = Check.city("nw" + wage + "p99;np" + wage);
            CHECK.due("P10 just enough for " + wage, just.shout(0, 1, 0), 0);
            CHECK.due("P10 all is paid", just.name(0, 3), 99 + wage);
            NameWall tied = Check.city("nw" + wage + ";np0;t");
            CHECK.due("P10 TIED ones pay nothing", tied.shout(0, 1, 0), 0);
            CHECK.due("P10 TIED ones are paid nothing", tied.name(0, 3), 5);
        }
        for (int wage = 1; wage <= 9; wage++) {
            NameWall poor = Check.city("nw" + wage + ";np" + (wage - 1) + ";np" + (wage + 1));
            CHECK.due("P10 one too few for " + wage, poor.shout(0, 1, 0), NONE);
            CHECK.due("P10 nothing is paid", poor.name(1, 3), wage - 1);
            CHECK.due("P10 it has not SHOUTED", poor.name(0, 6), NONE);
            CHECK.due("P10 one left", poor.shout(0, 2, 0), 1);
        }
        NameWall chain = Check.city("nw5p0;nw5;nw9p4");
        CHECK.due("P10 5 of 5", chain.shout(0, 1, 0), 0);
        CHECK.due("P10 none is left", chain.shout(2, 1, 0), NONE);
        CHECK.due("P10 what was paid can pay at once", chain.shout(1, 0, 0), 0);
    }

    /** "one who STANDS and has not SHOUTED today, for another one who STANDS"; "no such ones, alike". */
    private static void whoCanShout() {
        NameWall wall = Check.city("sr1;nw0;nw0;ni1w0;ni2w0");
        CHECK.due("P10 name -1", wall.shout(-1, 1, 0), NONE);
        CHECK.due("P10 name 4", wall.shout(4, 1, 0), NONE);
        CHECK.due("P10 other -1", wall.shout(1, -1, 0), NONE);
        CHECK.due("P10 other 4", wall.shout(1, 4, 0), NONE);
        CHECK.due("P10 itself", wall.shout(1, 1, 0), NONE);
        CHECK.due("P10 of DEPTH 1", wall.shout(2, 3, 0), 5);
        CHECK.due("P10 for DEPTH 1", wall.shout(3, 2, 1), 5);
        CHECK.due("P10 it has SHOUTED that one", wall.shout(3, 2, 1), NONE);
        CHECK.due("P10 it has SHOUTED another", wall.shout(3, 0, 2), NONE);
        CHECK.due("P10 the one who was SHOUTED can be again", wall.shout(0, 2, 3), 5);
        CHECK.due("P10 SHOUTS", wall.count(8), 3);
        wall.evening(1);
        CHECK.due("P10 who was SHOUTED STANDS", wall.count(7), 15);
        wall.evening(1);
        wall.evening(60);
        CHECK.due("P10 all GONE", wall.shout(0, 1, 0), NONE);
        NameWall gone = Check.city("sr1;nw0;nw0;ni1w0");
        gone.evening(1);
        CHECK.due("P10 of DEPTH 0", gone.shout(2, 0, 0), NONE);
        CHECK.due("P10 for DEPTH 0", gone.shout(0, 2, 0), NONE);
        CHECK.due("P10 the next DAY", gone.shout(0, 1, 0), 5);
        CHECK.due("P10 once that DAY", gone.shout(0, 1, 1), NONE);
        gone.evening(1);
        CHECK.due("P10 the DAY behind it", gone.shout(0, 1, 0), 5);
    }

    /** "HEARD: all SHOUTS of an HOUR that has no more than DROWN of them; in FOG none." */
    private static void heard() {
        for (int drown = 1; drown <= 4; drown++) {
            NameWall wall = Check.city("sd" + drown + "h2;nv1w0;nv1w0;nv1w0;nv1w0;nv1w0;nv1w0");
            CHECK.due("P43 none", wall.count(9), 0);
            for (int name = 1; name <= drown; name++) {
                wall.shout(name, 0, 0);
                CHECK.due("P43 " + name + " by DROWN " + drown, wall.count(9), name);
                CHECK.due("P7 they are got", wall.name(0, 10), name);
            }
            wall.shout(drown + 1, 0, 0);
            CHECK.due("P43 one more than DROWN " + drown, wall.count(9), 0);
            CHECK.due("P43 they are SHOUTS", wall.count(8), drown + 1);
            CHECK.due("P7 nothing is got", wall.name(0, 10), 0);
            wall.shout(0, 1, 1);
            CHECK.due("P43 the other HOUR", wall.count(9), 1);
            wall.fog(true);
            CHECK.due("P43 none in FOG", wall.count(9), 0);
            wall.evening(1);
            CHECK.due("P18 none in FOG", wall.log(0, 1), 0);
        }
    }

    /** "the VOICE of each by whom it was HEARD (0 of a HOARSE one) and 1 for each other NAME HEARD and LIKE it". */
    private static void gets() {
        // 1, 2, 3 are LIKE, 4 is LIKE nobody else, 0 and 5 have LIKE 0.
        NameWall wall = Check.city("sd4h6;nv9w0;nv0w0g4;nv2w0g4;nv4w0g4;nv8w0g3;nv1w0");
        wall.shout(0, 1, 0);
        CHECK.due("P7 a VOICE", wall.name(1, 10), 9);
        CHECK.due("P7 1 of a LIKE one", wall.name(2, 10), 1);
        CHECK.due("P7 nothing, another number", wall.name(4, 10), 0);
        wall.shout(5, 1, 1);
        CHECK.due("P7 two VOICES", wall.name(1, 10), 10);
        CHECK.due("P7 of a LIKE one HEARD twice just 1", wall.name(2, 10), 1);
        wall.shout(2, 3, 2);
        CHECK.due("P7 VOICE and 1", wall.name(3, 10), 3);
        CHECK.due("P7 two LIKE ones", wall.name(2, 10), 2);
        wall.shout(1, 5, 3);
        CHECK.due("P7 a VOICE of 0", wall.name(5, 10), 0);
        wall.shout(3, 0, 4);
        CHECK.due("P7 0 is LIKE nobody", wall.name(5, 10), 0);
        CHECK.due("P7 0 is LIKE nobody", wall.name(0, 10), 4);
        wall.hoarse(0);
        CHECK.due("P7 a HOARSE one: 0", wall.name(1, 10), 2);
        CHECK.due("P7 a HOARSE one is HEARD", wall.count(9), 5);
        wall.evening(1);
        int[] depth = {22, 20, 20, 21, 18, 18};
        for (int name = 0; name < depth.length; name++) {
            CHECK.due("P13 DEPTH " + name, wall.name(name, 5), depth[name]);
        }
    }

    /** "FOG. False: no CITY, it is so." "there is no FOG" behind an EVENING. */
    private static void fog() {
        NameWall wall = Check.city("n;n");
        CHECK.due("P11 none is none", wall.fog(false), false);
        CHECK.due("P11 it comes", wall.fog(true), true);
        CHECK.due("P11 it is there", wall.fog(true), false);
        CHECK.due("P11 it is one ACT", wall.count(14), 1);
        wall.evening(1);
        CHECK.due("P11 none behind the EVENING", wall.fog(false), false);
        CHECK.due("P11 it comes again", wall.fog(true), true);
        CHECK.due("P11 it lifts", wall.fog(false), true);
        CHECK.due("P11 it has lifted", wall.fog(false), false);
        CHECK.due("P11 none without a CITY", new NameWall().fog(true), false);
        CHECK.due("P11 none without a CITY", new NameWall().fog(false), false);
    }

    /** "one who STANDS is HOARSE (once a DAY)"; "False: no such one, GONE, it is." */
    private static void hoarse() {
        NameWall wall = Check.city("n;n;n;n;n;n;n;ni2");
        CHECK.due("P12 name -1", wall.hoarse(-1), false);
        CHECK.due("P12 name 8", wall.hoarse(8), false);
        for (int name = 0; name < 8; name++) {
            CHECK.due("P12 not yet", wall.name(name, 8), 0);
            CHECK.due("P12 once", wall.hoarse(name), true);
            CHECK.due("P12 twice", wall.hoarse(name), false);
            CHECK.due("P12 HOARSE", wall.name(name, 8), 1);
        }
        CHECK.due("P12 eight ACTS", wall.count(14), 8);
        wall.evening(1);
        CHECK.due("P12 nobody is, behind the EVENING", wall.name(0, 8), 0);
        CHECK.due("P12 once on the next DAY", wall.hoarse(0), true);
        CHECK.due("P12 GONE", wall.hoarse(7), false);
        NameWall two = Check.city("n;n");
        CHECK.due("P12 the last of two", two.hoarse(1), true);
        CHECK.due("P12 the first that is not", two.hoarse(2), false);
    }

    /** "A NAME STANDS as long as its DEPTH is above 0; else it is GONE (it stays so)." */
    private static void standing() {
        NameWall wall = Check.city("sr3;ni2;ni3;ni4;ni40w0;nv9w0");
        CHECK.due("P40 those of DEPTH 2 and 3", wall.doomed(), 3);
        wall.evening(1);
        CHECK.due("P13 2 less 3 is held at 0", wall.name(0, 5), 0);
        CHECK.due("P13 3 less 3", wall.name(1, 5), 0);
        CHECK.due("P13 4 less 3", wall.name(2, 5), 1);
        CHECK.due("P43 DEPTH 1 STANDS, 0 does not", wall.count(7), 28);
        CHECK.due("P18 GONE ones", wall.log(0, 0), 3);
        CHECK.due("P18 DEPTHS: 0, 0, 1, 37, 17", wall.log(0, 2), 55);
        wall.evening(1);
        CHECK.due("P18 just who went GONE now", wall.log(0, 0), 4);
        NameWall back = Check.city("sr3;ni3g1;ng1w0;nv9w0");
        back.evening(1);
        Check.lawful(back, "y:0");
        back.shout(2, 1, 0);
        back.evening(1);
        CHECK.due("P13 a GONE one stays so", back.name(0, 5), 0);
        CHECK.due("P43 a GONE one stays so", back.count(7), 6);
        NameWall least = Check.city("sr0;ni1;ni1");
        days(least, 60);
        CHECK.due("P43 DEPTH 1 STANDS", least.count(7), 3);
    }

    /** "DEPTH is held within 0 .. CUT", "all at once". */
    private static void heldByCut() {
        // 0 has CUT, 1 one less, 2 two less; each is SHOUTED with VOICE 1.
        NameWall wall = Check.city("sr0c30d4h6;ni30v1w0;ni29v1w0;ni28v1w0;ni1");
        wall.shout(0, 1, 0);
        wall.shout(1, 2, 1);
        wall.shout(2, 0, 2);
        wall.evening(1);
        CHECK.due("P13 CUT and 1 is CUT", wall.name(0, 5), 30);
        CHECK.due("P13 up to CUT", wall.name(1, 5), 30);
        CHECK.due("P13 below CUT", wall.name(2, 5), 29);
        NameWall once = Check.city("sr4c30;ni30;nv9w0i4");
        once.shout(1, 0, 0);
        once.evening(1);
        CHECK.due("P13 30 and 9 less 4, held once", once.name(0, 5), 30);
        NameWall low = Check.city("sr9c30;ni1;nv9w0i20;nv8w0i20;ni1");
        low.shout(1, 0, 0);
        low.shout(2, 3, 1);
        low.evening(1);
        CHECK.due("P13 1 and 9 less 9, held once", low.name(0, 5), 1);
        CHECK.due("P13 1 and 8 less 9", low.name(3, 5), 0);
        NameWall narrow = Check.city("sr0c1;ni1;nv9w0i1");
        narrow.shout(1, 0, 0);
        narrow.evening(1);
        CHECK.due("P13 the least CUT", narrow.name(0, 5), 1);
        NameWall wide = Check.city("sr0c99;ni99;nv9w0i91;nw0v9");
        wide.shout(1, 0, 0);
        wide.shout(2, 1, 0);
        wide.evening(1);
        CHECK.due("P13 the greatest CUT", wide.name(0, 5), 99);
        CHECK.due("P13 the greatest CUT", wide.name(1, 5), 99);
    }

    /** "EVENINGS (1 .. 60): the DAY. NONE: no CITY, out of bounds, beyond 9,999." */
    private static void eveningBounds() {
        NameWall wall = Check.city("sr0;n;n");
        int[] wrong = {0, -1, 61, 100, 9999, Integer.MIN_VALUE, Integer.MAX_VALUE};
        for (int n : wrong) {
            CHECK.due("P13 evening " + n, wall.evening(n), NONE);
            CHECK.due("P13 evening of no CITY", new NameWall().evening(n), NONE);
        }
        CHECK.due("P13 no DAY has gone", wall.count(5), 0);
        CHECK.due("P13 one", wall.evening(1), 1);
        CHECK.due("P13 two", wall.evening(2), 3);
        CHECK.due("P13 59", wall.evening(59), 62);
        CHECK.due("P13 sixty", wall.evening(60), 122);
        CHECK.due("P13 61", wall.evening(61), NONE);
        CHECK.due("P13 the DAY stays", wall.count(5), 122);
        CHECK.due("P13 no CITY", new NameWall().evening(1), NONE);
    }

    /** "the DAY is one later (0 at first; 9,999 at most: none then)". */
    private static void lastDay() {
        NameWall wall = Check.city("sr0;nw0;n;t", "y:y=9999?7;y:0");
        CHECK.due("P43 0 at first", wall.count(5), 0);
        days(wall, 9940);
        CHECK.due("P13 9,940", wall.count(5), 9940);
        CHECK.due("P13 60 more would be 10,000", wall.evening(60), NONE);
        CHECK.due("P16 60 more would be 10,000", wall.centuries(60, 1), NONE);
        CHECK.due("P13 refused: none of them has gone", wall.count(5), 9940);
        CHECK.due("P13 refused: no ACT", wall.count(14), 40);
        CHECK.due("P13 59 more", wall.evening(59), 9999);
        CHECK.due("P7 y is 9,999", wall.name(0, 9), 7);
        CHECK.due("P13 none then", wall.evening(1), NONE);
        CHECK.due("P16 none then", wall.centuries(1, 1), NONE);
        CHECK.due("P41 the last DAY", wall.image(), 9999);
        CHECK.due("P10 there still are SHOUTS", wall.shout(0, 1, 3), 5);
        CHECK.due("P11 there still is FOG", wall.fog(true), true);
        CHECK.due("P12 one still is HOARSE", wall.hoarse(1), true);
        CHECK.due("P42 the last DAY", wall.back(), 9999);
        NameWall other = Check.city("sr0;n;n");
        days(other, 9998);
        CHECK.due("P13 two more would be 10,000", other.evening(2), NONE);
        CHECK.due("P16 two more would be 10,000", other.centuries(2, 1), NONE);
        CHECK.due("P16 one more", other.centuries(1, 1), 9999);
        CHECK.due("P17 the last DAY is UNDONE", other.undo(), 39);
        CHECK.due("P13 two more would be 10,000", other.evening(2), NONE);
        CHECK.due("P13 one more", other.evening(1), 9999);
        NameWall sixty = Check.city("sr0;n;n");
        days(sixty, 9939);
        CHECK.due("P16 60 more", sixty.centuries(60, 1), 9999);
        CHECK.due("P18 the LOG then", sixty.count(13), 60);
    }

    /** "FOGS (0 .. 99; 0 at first)", "COLDS (0 .. 99; 0 at first)"; "False: out of bounds, it is so." */
    private static void fogsAndColds() {
        NameWall wall = new NameWall();
        int[] wrong = {-1, 100, -100, Integer.MIN_VALUE, Integer.MAX_VALUE, 0};
        for (int v : wrong) {
            CHECK.due("P14 fogs " + v, wall.fogs(v), false);
            CHECK.due("P15 colds " + v, wall.colds(v), false);
        }
        int[] right = {1, 99, 98, 0, 50};
        for (int v : right) {
            CHECK.due("P14 fogs " + v, wall.fogs(v), true);
            CHECK.due("P14 it is so", wall.fogs(v), false);
            CHECK.due("P14 told", wall.count(10), v);
            CHECK.due("P15 colds " + v, wall.colds(99 - v), true);
            CHECK.due("P15 it is so", wall.colds(99 - v), false);
            CHECK.due("P15 told", wall.count(11), 99 - v);
            CHECK.due("P14 still told", wall.count(10), v);
        }
        CHECK.due("P14 beyond", wall.fogs(100), false);
        CHECK.due("P14 it stays", wall.count(10), 50);
        CHECK.due("P15 below", wall.colds(-1), false);
        CHECK.due("P15 it stays", wall.count(11), 49);
    }

    /** "(the latest 60 DAYS)"; "LOG, too" is UNDONE. DEPTHS are 99 less the DAY here; NAME 1 goes GONE at first. */
    private static void loggedDays() {
        NameWall wall = Check.city("sr1c99;ni99;ni1");
        CHECK.due("P18 the empty LOG", wall.log(0, 2), NONE);
        CHECK.due("P43 the empty LOG", wall.count(13), 0);
        wall.evening(1);
        CHECK.due("P18 the first DAY", wall.log(0, 2), 98);
        CHECK.due("P18 none ahead of it", wall.log(1, 2), NONE);
        CHECK.due("P43 one DAY", wall.count(13), 1);
        wall.evening(58);
        CHECK.due("P18 the first of 59", wall.log(58, 2), 98);
        CHECK.due("P18 none ahead of it", wall.log(59, 2), NONE);
        CHECK.due("P43 59 DAYS", wall.count(13), 59);
        wall.evening(1);
        CHECK.due("P18 the first of 60", wall.log(59, 0), 2);
        CHECK.due("P18 none ahead of it", wall.log(60, 2), NONE);
        CHECK.due("P43 60 DAYS", wall.count(13), 60);
        wall.evening(1);
        CHECK.due("P18 the first of 61 is not kept", wall.log(59, 2), 97);
        CHECK.due("P18 the first of 61 is not kept", wall.log(59, 0), 0);
        CHECK.due("P18 none ahead of it", wall.log(60, 2), NONE);
        CHECK.due("P43 60 DAYS at most", wall.count(13), 60);
        CHECK.due("P18 the latest", wall.log(0, 2), 38);
        CHECK.due("P17 the 61st is UNDONE", wall.undo(), 39);
        CHECK.due("P18 the first of 60 again", wall.log(59, 0), 2);
        CHECK.due("P18 the latest of them", wall.log(0, 2), 39);
        CHECK.due("P17 the 60th is UNDONE", wall.undo(), 38);
        CHECK.due("P43 59 DAYS", wall.count(13), 59);
        CHECK.due("P18 none ahead of 59", wall.log(59, 2), NONE);
        wall.evening(38);
        for (int undone = 1; undone <= 40; undone++) {
            wall.undo();
        }
        CHECK.due("P17 40 are UNDONE", wall.count(5), 57);
        CHECK.due("P43 57 DAYS", wall.count(13), 57);
        for (int i = 0; i < 57; i++) {
            CHECK.due("P18 all are there", wall.log(i, 2), 42 + i);
        }
        CHECK.due("P18 none ahead of 57", wall.log(57, 2), NONE);
        wall.evening(2);
        CHECK.due("P18 other DAYS instead", wall.log(0, 2), 40);
        CHECK.due("P18 the first", wall.log(58, 2), 98);
    }

    /** "the latest (i 0), the one ahead of it (1) ..: 0 who went GONE, 1 HEARD, 2 DEPTHS. NONE: no such ones." */
    private static void logBounds() {
        NameWall wall = Check.city("sr1c99;ni99v0w0;ni1;n");
        wall.shout(0, 2, 0);
        wall.evening(1);
        int[] due = {NONE, 2, 1, 117, NONE};
        for (int what = -1; what <= 3; what++) {
            CHECK.due("P18 what " + what, wall.log(0, what), due[what + 1]);
            CHECK.due("P18 i -1", wall.log(-1, what), NONE);
            CHECK.due("P18 i 1", wall.log(1, what), NONE);
            CHECK.due("P18 no CITY", new NameWall().log(0, what), NONE);
        }
        NameWall all = Check.city("ni1;ni1;ni1;ni1;ni1;ni1;ni1;ni1");
        all.evening(1);
        CHECK.due("P18 all went GONE", all.log(0, 0), 255);
        CHECK.due("P18 no DEPTHS", all.log(0, 2), 0);
        all.evening(1);
        CHECK.due("P18 nobody went GONE", all.log(0, 0), 0);
        NameWall most = Check.city("sr0c99d4;ni99v0w0;ni99v0w0;ni99v0w0;ni99v0w0;ni99v0w0;ni99v0w0;ni99v0w0;ni99v0w0");
        for (int name = 0; name < 8; name++) {
            most.shout(name, (name + 1) % 8, name % 2);
        }
        CHECK.due("P43 eight SHOUTS", most.count(8), 8);
        most.evening(1);
        CHECK.due("P18 eight HEARD", most.log(0, 1), 8);
        CHECK.due("P18 the most DEPTHS", most.log(0, 2), 792);
    }

    /** "the latest 40 can be UNDONE one by one"; "how many still can be. NONE: none." */
    private static void acts() {
        for (int acts : new int[] {0, 1, 2, 39, 40, 41, 42, 79, 80, 81, 121}) {
            NameWall wall = Check.city("n;n");
            for (int act = 0; act < acts; act++) {
                wall.fog(act % 2 == 0);
            }
            int can = Math.min(acts, 40);
            CHECK.due("P43 ACTS of " + acts, wall.count(14), can);
            for (int left = can - 1; left >= 0; left--) {
                CHECK.due("P17 left of " + acts, wall.undo(), left);
                CHECK.due("P17 FOG is as it was", wall.count(6), (acts - can + left) % 2);
            }
            CHECK.due("P17 none of " + acts + " is left", wall.undo(), NONE);
            CHECK.due("P43 none of " + acts + " is left", wall.count(14), 0);
            CHECK.due("P17 FOG is as it was then", wall.count(6), (acts - can) % 2);
            CHECK.due("P17 an ACT again", wall.hoarse(1), true);
            CHECK.due("P17 is UNDONE", wall.undo(), 0);
            CHECK.due("P17 none is left", wall.undo(), NONE);
        }
        NameWall evenings = Check.city("sr0;n;n");
        for (int n : new int[] {39, 1, 1, 60}) {
            evenings.evening(n);
            CHECK.due("P43 each EVENING is an ACT", evenings.count(14), Math.min(40, evenings.count(5)));
        }
        for (int undone = 0; undone < 40; undone++) {
            evenings.undo();
        }
        CHECK.due("P17 the latest 40 of 101", evenings.count(5), 61);
        CHECK.due("P17 no more", evenings.undo(), NONE);
        CHECK.due("P17 the DAY stays", evenings.count(5), 61);
    }

    private static void actsOfEachKind() {
        NameWall wall = Check.city("nw2;n;ni1");
        wall.shout(0, 1, 3);
        CHECK.due("P17 a SHOUT alone", wall.undo(), 0);
        CHECK.due("P17 PENCE are back", wall.name(1, 3), 5);
        CHECK.due("P17 PENCE are back", wall.name(0, 3), 5);
        CHECK.due("P17 it has not SHOUTED", wall.name(0, 6), NONE);
        CHECK.due("P17 in no HOUR", wall.name(0, 7), NONE);
        wall.fog(true);
        wall.fog(false);
        CHECK.due("P17 FOG that lifted", wall.undo(), 1);
        CHECK.due("P17 is there", wall.count(6), 1);
        wall.hoarse(2);
        CHECK.due("P17 HOARSE", wall.undo(), 1);
        CHECK.due("P17 not HOARSE", wall.name(2, 8), 0);
        wall.evening(1);
        CHECK.due("P17 an EVENING", wall.undo(), 1);
        CHECK.due("P17 it STANDS again", wall.count(7), 7);
        CHECK.due("P17 FOG is there again", wall.count(6), 1);
        wall.centuries(2, 3);
        CHECK.due("P17 a DAY of CENTURIES", wall.undo(), 2);
        CHECK.due("P17 just one", wall.count(5), 1);
        CHECK.due("P17 the other", wall.undo(), 1);
        CHECK.due("P17 both", wall.count(5), 0);
        // What is no ACT is not UNDONE.
        wall.fogs(3);
        wall.colds(4);
        wall.dent(0, 0, true);
        Check.lawful(wall, "y:1");
        Check.put(wall, "n;n");
        wall.image();
        CHECK.due("P17 FOG that came", wall.undo(), 0);
        CHECK.due("P17 it is not there", wall.count(6), 0);
        CHECK.due("P17 none is left", wall.undo(), NONE);
        int[] what = {2, 3, 4, 10, 11, 12};
        int[] due = {1, 3, 0, 3, 4, 1};
        for (int i = 0; i < what.length; i++) {
            CHECK.due("P17 no ACT: count " + what[i], wall.count(what[i]), due[i]);
        }
        CHECK.due("P42 the IMAGE is there", wall.back(), 0);
        CHECK.due("P42 with FOG", wall.count(6), 1);
    }

    /** "An IMAGE (instead of the one ahead)"; "no ACT can be UNDONE then"; "NONE: no IMAGE of this CITY." */
    private static void imageBounds() {
        CHECK.due("P41 no CITY", new NameWall().image(), NONE);
        CHECK.due("P42 no CITY", new NameWall().back(), NONE);
        NameWall wall = Check.city("sr1;ni2w0;n;n");
        CHECK.due("P42 no IMAGE", wall.back(), NONE);
        wall.evening(1);
        CHECK.due("P42 no IMAGE: the DAY stays", wall.count(5), 1);
        CHECK.due("P42 no IMAGE: ACTS stay", wall.count(14), 1);
        CHECK.due("P41 the DAY", wall.image(), 1);
        CHECK.due("P41 ACTS stay", wall.count(14), 1);
        CHECK.due("P42 at once", wall.back(), 1);
        CHECK.due("P42 no ACT then", wall.undo(), NONE);
        wall.shout(0, 1, 0);
        CHECK.due("P42 an ACT since then", wall.undo(), 0);
        wall.evening(60);
        CHECK.due("P42 behind 60 DAYS", wall.back(), 1);
        CHECK.due("P42 who went GONE STANDS", wall.count(7), 7);
        CHECK.due("P42 no ACT of the 60", wall.undo(), NONE);
        wall.evening(5);
        CHECK.due("P41 a later one instead", wall.image(), 6);
        wall.evening(5);
        CHECK.due("P42 the later one", wall.back(), 6);
        CHECK.due("P42 again the later one", wall.back(), 6);
        CHECK.due("P42 GONE as then", wall.count(7), 6);
        Check.put(wall, "n;n^");
        CHECK.due("P5 no CITY", wall.text(0), NONE);
        CHECK.due("P42 still of this CITY", wall.back(), 6);
        wall.end(3);
        wall.text(0);
        CHECK.due("P42 not of this CITY", wall.back(), NONE);
        CHECK.due("P41 on DAY 0", wall.image(), 0);
        CHECK.due("P42 of this CITY", wall.back(), 0);
    }

    private static void imageOfLog() {
        NameWall wall = Check.city("sr1c99;ni99;ni1");
        wall.image();
        wall.evening(60);
        CHECK.due("P42 the empty LOG", wall.back(), 0);
        CHECK.due("P42 is empty", wall.count(13), 0);
        CHECK.due("P42 is empty", wall.log(0, 0), NONE);
        wall.evening(60);
        wall.image();
        wall.evening(38);
        CHECK.due("P18 the 60th", wall.log(59, 2), 60);
        wall.back();
        CHECK.due("P42 60 DAYS", wall.count(13), 60);
        for (int i = 0; i < 60; i++) {
            CHECK.due("P42 all DAYS of the LOG", wall.log(i, 2), 39 + i);
        }
        CHECK.due("P42 and none more", wall.log(60, 2), NONE);
        wall.evening(60);
        wall.evening(60);
        wall.back();
        CHECK.due("P42 the first of 60, behind 120 others", wall.log(59, 0), 2);
        CHECK.due("P42 the latest of 60, behind 120 others", wall.log(0, 2), 39);
    }

    /** "HIDDEN for others." The least and the most of each. */
    private static void counts() {
        NameWall wall = new NameWall();
        CHECK.due("P43 what -1", wall.count(-1), HIDDEN);
        CHECK.due("P43 the first", wall.count(0), 0);
        CHECK.due("P43 the last", wall.count(14), 0);
        CHECK.due("P43 what 15", wall.count(15), HIDDEN);
        NameWall most = Check.city("sd4;nw0;nw0;nw0;nw0;nw0;nw0;nw0;nw0;t;t;t;t;t;t;t;t;t;t");
        CHECK.due("P43 eight NAMES", most.count(0), 8);
        CHECK.due("P43 ten TIES, though alike", most.count(1), 10);
        CHECK.due("P43 all STAND", most.count(7), 255);
        for (int name = 0; name < 8; name++) {
            CHECK.due("P43 SHOUTS", most.count(8), name);
            most.shout(name, (name + 1) % 8, name / 4);
        }
        CHECK.due("P43 eight SHOUTS", most.count(8), 8);
        CHECK.due("P43 eight HEARD", most.count(9), 8);
        Check.put(most, "x".repeat(240));
        CHECK.due("P43 the full TAPE", most.count(3), 240);
        for (int dents = 1; dents <= 13; dents++) {
            most.dent(0, 0, true);
            CHECK.due("P43 DENTS", most.count(12), Math.min(dents, 12));
        }
        CHECK.due("P43 no such", most.count(-1), HIDDEN);
        CHECK.due("P43 no such", most.count(15), HIDDEN);
    }

    /** "An object is used for at most 512 calls": the last of them still answers as told. */
    private static void fiveHundredAndTwelve() {
        NameWall wall = new NameWall();
        wall.feed('n' << 24 | ';' << 16 | 'n' << 8, 0, 0, 0, 0);
        wall.text(0);
        for (int call = 3; call <= 510; call++) {
            CHECK.due("P11 call " + call, wall.fog(call % 2 == 1), true);
        }
        CHECK.due("P43 call 511", wall.count(14), 40);
        CHECK.due("P17 call 512", wall.undo(), 39);
        NameWall many = new NameWall();
        for (int call = 1; call < 511; call += 2) {
            many.feed('n' << 24 | ';' << 16 | 'n' << 8, 0, 0, 0, 0);
            CHECK.due("P5 a CITY by call " + call, many.text(0), 2);
        }
        CHECK.due("P13 call 511", many.evening(60), 60);
        CHECK.due("P18 call 512", many.log(59, 2), 36);
    }

    /** "CENTURIES of n (1 .. 60) DAYS"; "NONE likewise"; "Each DAY is one ACT." */
    private static void centuryBounds() {
        NameWall wall = Check.city("sr0;n;n");
        int[] wrong = {0, -1, 61, Integer.MIN_VALUE, Integer.MAX_VALUE};
        for (int n : wrong) {
            CHECK.due("P16 centuries " + n, wall.centuries(n, 5), NONE);
            CHECK.due("P16 no CITY", new NameWall().centuries(n, 5), NONE);
        }
        CHECK.due("P16 no DAY has gone", wall.count(5), 0);
        CHECK.due("P16 one", wall.centuries(1, 5), 1);
        CHECK.due("P16 one ACT", wall.count(14), 1);
        CHECK.due("P16 38 more", wall.centuries(38, 5), 39);
        CHECK.due("P16 39 ACTS", wall.count(14), 39);
        CHECK.due("P16 sixty", wall.centuries(60, 5), 99);
        CHECK.due("P16 40 ACTS", wall.count(14), 40);
        CHECK.due("P16 no CITY", new NameWall().centuries(1, 5), NONE);
        NameWall gone = Check.city("ni1;ni1;t");
        gone.evening(1);
        CHECK.due("P16 all GONE", gone.centuries(60, 5), 61);
        CHECK.due("P18 nobody is HEARD", gone.log(0, 1), 0);
    }

    private static final BigInteger ROUND = BigInteger.ONE.shiftLeft(64);

    /** Draws by the document's words: each x as a number of 64 bits without sign. */
    private static final class Draws {
        private BigInteger x;

        Draws(long seed) {
            x = BigInteger.valueOf(seed).mod(ROUND);
        }

        int next(int of) {
            x = x.multiply(new BigInteger("6364136223846793005")).add(new BigInteger("1442695040888963407")).mod(ROUND);
            return x.shiftRight(33).mod(BigInteger.valueOf(of)).intValue();
        }
    }

    /** A seed by which the draw behind so many others is that number. */
    private static long seedOf(int others, int number) {
        for (long seed = 0; true; seed++) {
            Draws draws = new Draws(seed);
            for (int i = 0; i < others; i++) {
                draws.next(100);
            }
            if (draws.next(100) == number) {
                return seed;
            }
        }
    }

    /** "a draw of 100 below FOGS (0 .. 99; 0 at first): FOG (it stays, if it is there)"; "below COLDS: HOARSE". */
    private static void drawnBelow() {
        for (int drawn : new int[] {0, 1, 50, 98, 99}) {
            long fogSeed = seedOf(0, drawn);
            long coldSeed = seedOf(1, drawn);
            for (int v : new int[] {0, 1, 2, 50, 51, 98, 99}) {
                NameWall foggy = Check.city("sr0h1d2;n;n;t");
                foggy.fogs(v);
                foggy.centuries(1, fogSeed);
                CHECK.due("P16 draw " + drawn + " below FOGS " + v, foggy.log(0, 1), drawn < v ? 0 : 2);
                NameWall cold = Check.city("sr0h1d2;nv7;nv0;t");
                cold.colds(v);
                cold.centuries(1, coldSeed);
                CHECK.due("P16 draw " + drawn + " below COLDS " + v, cold.name(1, 5), drawn < v ? 20 : 27);
            }
            NameWall voiceless = Check.city("sr0h1d2;nv7;nv0;t");
            voiceless.colds(99);
            voiceless.hoarse(0);
            voiceless.centuries(1, coldSeed);
            CHECK.due("P16 who is HOARSE stays so by draw " + drawn, voiceless.name(1, 5), 20);
            NameWall stays = Check.city("sr0h1d2;n;n;t");
            stays.fog(true);
            stays.centuries(1, fogSeed);
            CHECK.due("P16 FOG that is there stays", stays.log(0, 1), 0);
            CHECK.due("P16 FOG of that DAY alone", stays.count(6), 0);
            stays.centuries(1, fogSeed);
            CHECK.due("P16 none on the next", stays.log(0, 1), 2);
        }
    }

    /** "x times .. and .. (64 bits, going round); a draw of m: (x shifted right by 33, without sign) modulo m." */
    private static void drawsGoRound() {
        long[] seeds = {0, 1, -1, 2, Long.MAX_VALUE, Long.MIN_VALUE, Long.MIN_VALUE + 1, 1L << 33, 1L << 32,
            -(1L << 33), 6364136223846793005L, -1442695040888963407L, 123456789012345678L};
        for (long seed : seeds) {
            for (int hours = 1; hours <= 6; hours++) {
                NameWall wall = Check.city("sr0d1h" + hours + ";nv0;nv0;t");
                wall.fogs(40);
                wall.centuries(60, seed);
                Draws draws = new Draws(seed);
                for (int day = 0; day < 60; day++) {
                    boolean isFog = draws.next(100) < 40;
                    draws.next(100);
                    draws.next(100);
                    int apart = draws.next(hours) - draws.next(hours);
                    CHECK.due("P16 seed " + seed + " HOURS " + hours + " DAY " + day, wall.log(59 - day, 1),
                            isFog || apart == 0 ? 0 : 2);
                }
            }
        }
    }

    /** "who STANDS and has not SHOUTED: for the lowest that it is TIED to and that STANDS, if there is one". */
    private static void whoDraws() {
        for (long seed = -20; seed < 20; seed++) {
            // 0 is GONE on DAY 1, 1 and 5 are TIED to it first, 2 to nobody, 6 to it alone; 4 SHOUTS by hand.
            NameWall wall = Check.city("sr1h6d1c99;ni1v9;nv1;nv2;nv3;nv4w0;nv5;nv6;"
                    + "tb1;tb5;tb6;ta5b4;ta1b3;ta1b5;ta4b3");
            wall.evening(1);
            wall.shout(4, 2, 5);
            wall.colds(50);
            wall.centuries(1, seed);
            int[] whom = {-1, 3, -1, 1, 2, 1, -1};
            int[] hour = new int[7];
            boolean[] isHoarse = new boolean[7];
            Draws draws = new Draws(seed);
            draws.next(100);
            for (int name = 1; name < 7; name++) {
                isHoarse[name] = draws.next(100) < 50;
            }
            for (int name = 1; name < 7; name++) {
                hour[name] = name == 4 ? 5 : whom[name] < 0 ? -name : draws.next(6);
            }
            int[] depth = {0, 18, 18, 18, 18, 18, 18};
            int heard = 0;
            for (int by = 1; by < 7; by++) {
                boolean isHeard = whom[by] >= 0;
                for (int other = 1; other < 7; other++) {
                    isHeard &= other == by || hour[other] != hour[by];
                }
                heard += isHeard ? 1 : 0;
                if (isHeard && !isHoarse[by]) {
                    depth[whom[by]] += by;
                }
            }
            CHECK.due("P16 HEARD by seed " + seed, wall.log(0, 1), heard);
            for (int name = 0; name < 7; name++) {
                CHECK.due("P16 DEPTH " + name + " by seed " + seed, wall.name(name, 5), depth[name]);
                CHECK.due("P16 PENCE " + name, wall.name(name, 3), 5);
            }
        }
    }
}
