/** Promises 19 to 40, Terms 3 at each bound that the document names. A comment quotes the sentence that is tested. */
public final class AskEdgeTest {
    private static final Check CHECK = new Check();
    private static final int NONE = NameWall.NONE;
    private static final int HIDDEN = NameWall.HIDDEN;

    public static void main(String[] args) {
        alone();
        aloneToday();
        keepSets();
        keepStanding();
        keepRoom();
        keepPence();
        keepLoss();
        keepByShouts();
        keepToday();
        ringSets();
        ringVoices();
        prices();
        priceOfMany();
        packedByDrown();
        packedApart();
        weak();
        parts();
        bridges();
        bonds();
        dents();
        fits();
        looks();
        rivals();
        rivalsByDrown();
        rests();
        oddsBounds();
        oddsCut();
        oddsHeld();
        needs();
        deepest();
        richest();
        friends();
        helped();
        doomed();
        CHECK.end();
    }

    private static NameWall beheaded(String city) {
        NameWall wall = Check.city(city);
        wall.evening(1);
        return wall;
    }

    /** "behind how many EVENINGS (1 .. 200) a NAME that STANDS is GONE"; "NONE: not within 200, no such one, GONE." */
    private static void alone() {
        NameWall wall = Check.city("sr5;ni5;ni6;ni4;ni1;ni10;ni11");
        int[] due = {1, 2, 1, 1, 2, 3};
        for (int name = 0; name < due.length; name++) {
            CHECK.due("P19 alone " + name, wall.alone(name), due[name]);
        }
        CHECK.due("P19 name -1", wall.alone(-1), NONE);
        CHECK.due("P19 name 6", wall.alone(6), NONE);
        CHECK.due("P19 no CITY", new NameWall().alone(0), NONE);
        wall.evening(1);
        CHECK.due("P19 DEPTH 1", wall.alone(1), 1);
        CHECK.due("P19 DEPTH 0 just now", wall.alone(0), NONE);
        CHECK.due("P19 GONE", wall.alone(2), NONE);
        for (int day = 198; day <= 201; day++) {
            NameWall late = Check.city("ni1;n", "y:y=" + day + "?1;y:0");
            CHECK.due("P19 LOSS on DAY " + day + " alone", late.alone(0), day < 200 ? day + 1 : NONE);
            late.evening(1);
            CHECK.due("P19 from DAY 1 on", late.alone(0), day < 201 ? day : NONE);
        }
        CHECK.due("P19 no LOSS", Check.city("sr0;n;n").alone(0), NONE);
        CHECK.due("P19 the greatest DEPTH", Check.city("sr1c99;ni99;n").alone(0), 99);
        CHECK.due("P19 the greatest LOSS", Check.city("sc99;ni99;n", "y:9999").alone(0), 1);
        CHECK.due("P19 LOSS 0 at last", Check.city("ni3;n", "y:d/2+[d/2]/d").alone(0), NONE);
    }

    /** "if nobody SHOUTS": today neither. */
    private static void aloneToday() {
        NameWall wall = Check.city("sr3;ni4;nv9w0");
        wall.shout(1, 0, 0);
        CHECK.due("P19 though it is SHOUTED", wall.alone(0), 2);
        wall.fog(true);
        wall.hoarse(1);
        CHECK.due("P19 in whatever weather", wall.alone(0), 2);
        CHECK.due("P19 s 0: 3 by 1", Check.city("ni3;n", "y:1+s").alone(0), 3);
        CHECK.due("P19 s 0: 3 by 1", Check.city("ni3;n", "y:1-s").alone(0), 3);
    }

    /** "a set of NAMES that STAND (bits; at least one)"; "NONE: there is none, no such set, no such what." */
    private static void keepSets() {
        NameWall wall = Check.city("sr3;n;n;ni1");
        CHECK.due("P20 nobody", wall.keep(0, 0), NONE);
        CHECK.due("P20 the first", wall.keep(1, 1), 1);
        CHECK.due("P20 the last", wall.keep(4, 1), 1);
        CHECK.due("P20 all", wall.keep(7, 1), 3);
        CHECK.due("P20 the first NAME that is not", wall.keep(8, 0), NONE);
        CHECK.due("P20 one that is not among others", wall.keep(15, 0), NONE);
        CHECK.due("P20 -1", wall.keep(-1, 0), NONE);
        CHECK.due("P20 the highest bit", wall.keep(1 << 31, 0), NONE);
        CHECK.due("P20 the highest bit and the first", wall.keep(1 << 31 | 1, 0), NONE);
        CHECK.due("P20 what -1", wall.keep(1, -1), NONE);
        CHECK.due("P20 what 0", wall.keep(1, 0), 909);
        CHECK.due("P20 what 1", wall.keep(1, 1), 1);
        CHECK.due("P20 what 2", wall.keep(1, 2), NONE);
        wall.evening(1);
        CHECK.due("P20 a GONE one", wall.keep(4, 0), NONE);
        CHECK.due("P20 a GONE one among others", wall.keep(5, 0), NONE);
        CHECK.due("P20 all who STAND", wall.keep(3, 0), 10);
        CHECK.due("P20 no CITY", new NameWall().keep(1, 0), NONE);
    }

    /** "each who STANDS (six at most)"; "HIDDEN: more than six STAND." */
    private static void keepStanding() {
        NameWall wall = Check.city("sr3;ni40;ni40;ni40;ni40;ni40;ni4;ni1;ni7");
        CHECK.due("P20 eight STAND", wall.keep(1, 0), HIDDEN);
        CHECK.due("P20 eight STAND", wall.keep(255, 1), HIDDEN);
        wall.evening(1);
        CHECK.due("P20 seven STAND", wall.keep(1, 0), HIDDEN);
        CHECK.due("P20 seven STAND", wall.keep(1, 1), HIDDEN);
        wall.evening(1);
        CHECK.due("P20 six STAND", wall.keep(1, 0), 909999);
        CHECK.due("P20 digits by numbers of six", wall.keep(128, 0), 799999);
        wall.evening(1);
        CHECK.due("P20 five STAND", wall.keep(1, 0), 90999);
        NameWall one = beheaded("sr1;ni1;ni9;ni1");
        CHECK.due("P20 one STANDS, LOSS 1", one.keep(2, 0), NONE);
        Check.lawful(one, "y:0");
        CHECK.due("P20 one STANDS, no LOSS", one.keep(2, 0), 9);
        CHECK.due("P20 one STANDS, no LOSS", one.keep(2, 1), 0);
    }

    /** "no more SHOUTS than HOURS times DROWN". */
    private static void keepRoom() {
        // Nobody loses anything, and SHOUTS cost nothing: the least digits have as many SHOUTS as there is room for.
        int[] digits = {199999, 109999, 100999, 100099, 100009, 100000, 100000, 100000};
        for (int hours = 1; hours <= 6; hours++) {
            for (int drown = 1; drown <= 4; drown++) {
                NameWall wall = Check.city("sr0h" + hours + "d" + drown + ";nw0;nw0;nw0;nw0;nw0;nw0");
                CHECK.due("P20 " + hours + " times " + drown, wall.keep(1, 0), digits[Math.min(hours * drown, 8) - 1]);
            }
        }
        String[] rooms = {"h1d1", "h2d1", "h1d2", "h3d1", "h1d3"};
        int[] room = {1, 2, 2, 3, 3};
        for (int i = 0; i < rooms.length; i++) {
            NameWall wall = Check.city("sr3" + rooms[i] + ";n;n;n");
            CHECK.due("P20 one SHOUT by " + rooms[i], wall.keep(1, 1), 1);
            CHECK.due("P20 two SHOUTS by " + rooms[i], wall.keep(3, 1), room[i] < 2 ? NONE : 2);
            CHECK.due("P20 three SHOUTS by " + rooms[i], wall.keep(7, 1), room[i] < 3 ? NONE : 3);
        }
    }

    /** "nobody pays more than the PENCE that it has". */
    private static void keepPence() {
        for (int pence = 5; pence <= 7; pence++) {
            NameWall wall = Check.city("sr6;np" + pence + ";nw2;nw4");
            CHECK.due("P20 2 and 4 of " + pence, wall.keep(1, 1), pence < 6 ? NONE : 6);
            CHECK.due("P20 2 and 4 of " + pence, wall.keep(1, 0), pence < 6 ? NONE : 900);
        }
        NameWall tied = Check.city("sr6;np0;nw2;nw4;tb2;t");
        CHECK.due("P20 TIED ones: nothing of nothing", tied.keep(1, 1), 0);
        NameWall last = Check.city("sr3;np0;nw1;nw0");
        CHECK.due("P20 WAGE 0 of nothing", last.keep(1, 0), 990);
        CHECK.due("P20 WAGE 0 of nothing", last.keep(1, 1), 0);
        NameWall two = Check.city("sr3;np1;np1;nw2;nv0");
        CHECK.due("P20 each other's 1 of 1", two.keep(3, 0), 1099);
        CHECK.due("P20 1 and 1", two.keep(3, 1), 2);
        // What one is paid by a plan is not there to pay with.
        NameWall paid = Check.city("sr3;np0w1;nw0p5v0;nv3w1p0i40");
        CHECK.due("P20 PENCE that it has, not that it gets", paid.keep(1, 0), NONE);
    }

    /** "each of the set gets no less than its LOSS". */
    private static void keepLoss() {
        for (int voice = 4; voice <= 6; voice++) {
            NameWall wall = Check.city("sr5;n;nv" + voice + ";nv0");
            CHECK.due("P20 VOICE " + voice + " for 5", wall.keep(1, 0), voice < 5 ? NONE : 909);
            NameWall like = Check.city("sr5;ng1;nv" + (voice - 1) + ";nv0g1");
            CHECK.due("P20 " + (voice - 1) + " and 1 of a LIKE one", like.keep(1, 1), voice < 5 ? NONE : 7 - voice);
        }
        CHECK.due("P20 no LOSS, nobody SHOUTS", Check.city("sr0;n;n;n").keep(7, 0), 999);
        CHECK.due("P20 no LOSS, no WAGES", Check.city("sr0;n;n;n").keep(7, 1), 0);
        NameWall hoarse = Check.city("sr1;n;nv9;nv1");
        hoarse.hoarse(1);
        NameWall first = Check.city("sr1;ng1;ng1;nv0");
        CHECK.due("P20 LIKE NAME 0, that nobody SHOUTS", first.keep(2, 0), 199);
        NameWall quiet = Check.city("sr1;nv0g1;ng1;nv0");
        CHECK.due("P20 LIKE NAME 0, that is SHOUTED", quiet.keep(2, 0), 909);
        CHECK.due("P20 LIKE NAME 0, that is SHOUTED", quiet.keep(2, 1), 1);
        CHECK.due("P20 VOICE 0 of a HOARSE one", hoarse.keep(1, 0), 990);
        CHECK.due("P20 not its own VOICE", hoarse.keep(4, 0), 299);
        NameWall all = Check.city("sr9;nv0k3;nv2;nv2;nv2;nv3;nv3;ni1");
        all.evening(1);
        CHECK.due("P20 all five for 12", all.keep(1, 0), 900000);
        NameWall less = Check.city("sr9;nv0k3;nv2;nv2;nv2;nv3;nv2;ni1");
        less.evening(1);
        CHECK.due("P20 all five are 11", less.keep(1, 0), NONE);
    }

    /** "no less than its LOSS (by these SHOUTS, PENCE as now)": s is 0 to 5. */
    private static void keepByShouts() {
        int[] digits = {999999, 199999, 109999, 100999, 100099, 100009};
        for (int s = 0; s <= 5; s++) {
            NameWall wall = Check.city("sr1h5d1;nv0;nv0;nv0;nv0;nv0;nv0", "y:s=" + s + "?0;y:99");
            for (int name = 0; name < 6; name++) {
                CHECK.due("P20 just " + s + " SHOUTS of " + name, wall.keep(1 << name, 1), s);
            }
            CHECK.due("P20 of NAME 5, digits", wall.keep(32, 0) % 10, 9);
            NameWall more = Check.city("sr1h5d1;nv0;nv0;nv0;nv0;nv0;nv0", "y:s>" + s + "?0;y:1");
            CHECK.due("P20 more than " + s + " SHOUTS", more.keep(1, 1), s == 5 ? NONE : s + 1);
            NameWall free = Check.city("sr0h" + Math.max(s, 1) + "d1;nw0;nw0;nw0;nw0;nw0;nw0");
            CHECK.due("P20 room for " + s, free.keep(1, 0), digits[Math.max(s, 1)]);
        }
        CHECK.due("P20 nobody SHOUTS: s 0", Check.city("n;n;n", "y:5-5*s").keep(1, 1), 1);
        NameWall rich = Check.city("n;nv9;nv9", "y:p");
        CHECK.due("P20 p 5 by 9", rich.keep(1, 1), 1);
        rich.shout(0, 1, 0);
        rich.shout(2, 1, 0);
        CHECK.due("P20 p 6 by 9, PENCE as now", rich.keep(1, 1), 1);
        CHECK.due("P20 p 3 by 3, PENCE as now", rich.keep(2, 0), 199);
    }

    /** "today, as if nobody had SHOUTED, no FOG"; "PENCE as now". */
    private static void keepToday() {
        NameWall wall = Check.city("sr3h1d1;nw1p5;nw1p1;nw9p9");
        wall.fog(true);
        CHECK.due("P20 no FOG", wall.keep(1, 0), 909);
        wall.shout(1, 0, 0);
        CHECK.due("P20 who has SHOUTED can", wall.keep(1, 0), 909);
        wall.shout(0, 1, 0);
        CHECK.due("P20 what was HEARD or drowned does not count", wall.keep(2, 1), 1);
        CHECK.due("P20 PENCE as now", wall.keep(4, 1), 1);
        NameWall paid = Check.city("sr3;np1;nw1;nw0v0");
        CHECK.due("P20 1 of 1", paid.keep(1, 1), 1);
        paid.shout(1, 0, 0);
        CHECK.due("P20 PENCE that are paid are gone", paid.keep(1, 1), NONE);
    }

    /** "a set of NAMES that STAND (2 .. 6 of them)"; "NONE: there is none, no such set." */
    private static void ringSets() {
        NameWall wall = Check.city("sr3;n;n;n;n;n;n;n;n");
        int[] digits = {0, 0, 1, 12, 123, 1234, 12345, 123456, 1234567};
        for (int many = 0; many <= 8; many++) {
            int set = (1 << many) - 1;
            CHECK.due("P21 the first " + many, wall.ring(set), many < 2 || many > 6 ? NONE : digits[many]);
            CHECK.due("P21 one that is not, too", wall.ring(set | 256), NONE);
        }
        CHECK.due("P21 the last two", wall.ring(192), 67);
        CHECK.due("P21 the last six", wall.ring(252), 234567);
        CHECK.due("P21 the last one", wall.ring(128), NONE);
        CHECK.due("P21 -1", wall.ring(-1), NONE);
        CHECK.due("P21 the highest bit", wall.ring(1 << 31 | 1), NONE);
        CHECK.due("P21 no CITY", new NameWall().ring(3), NONE);
        NameWall gone = beheaded("sr3;n;ni1;n");
        CHECK.due("P21 a GONE one", gone.ring(3), NONE);
        CHECK.due("P21 a GONE one among others", gone.ring(7), NONE);
        CHECK.due("P21 without it", gone.ring(5), 2);
        CHECK.due("P21 the first NAME that is not", gone.ring(13), NONE);
    }

    /** "VOICE (0 of a HOARSE one) is no less than LOSS (s 1) of who is SHOUTED: the least digits". */
    private static void ringVoices() {
        for (int loss = 2; loss <= 4; loss++) {
            CHECK.due("P21 VOICE 3 for " + loss, Check.city("sr" + loss + ";n;n").ring(3), loss > 3 ? NONE : 1);
            NameWall last = Check.city("sr1;nk" + (loss - 1) + ";nv9;nv3");
            CHECK.due("P21 the last one's VOICE 3 for " + loss, last.ring(7), loss > 3 ? 21 : 12);
        }
        NameWall none = Check.city("sr0;n;n;n");
        none.hoarse(0);
        none.hoarse(1);
        CHECK.due("P21 HOARSE ones, no LOSS", none.ring(7), 12);
        NameWall one = Check.city("sr1;n;n");
        one.hoarse(1);
        CHECK.due("P21 a HOARSE one, LOSS 1", one.ring(3), NONE);
        CHECK.due("P21 by s 1", Check.city("n;n", "y:2+s").ring(3), 1);
        CHECK.due("P21 by s 1", Check.city("n;n", "y:3+s").ring(3), NONE);
        // 0 can SHOUT 5 alone; all others can SHOUT anybody but 5.
        NameWall six = Check.city("sr2;nv5;nv2;nv2;nv2;nv2;nv2k3");
        CHECK.due("P21 the least digits of six", six.ring(63), 51234);
        NameWall lost = Check.city("sr2;nv2;nv4;nv5k3");
        CHECK.due("P21 nobody can SHOUT 2 but itself", lost.ring(7), NONE);
        CHECK.due("P21 without it", lost.ring(3), 1);
    }

    /** "whose VOICES together are no less than its LOSS"; "NONE: all are not enough, no such ones, GONE." */
    private static void prices() {
        for (int loss = 2; loss <= 4; loss++) {
            NameWall wall = Check.city("sr" + loss + ";n;n");
            CHECK.due("P22 VOICE 3 for " + loss, wall.price(0, 0), loss > 3 ? NONE : 1);
            CHECK.due("P22 who", wall.price(0, 1), loss > 3 ? NONE : 2);
        }
        NameWall wall = Check.city("sr3;np0;n;ni1");
        CHECK.due("P22 name -1", wall.price(-1, 0), NONE);
        CHECK.due("P22 name 3", wall.price(3, 0), NONE);
        CHECK.due("P22 the last NAME", wall.price(2, 0), 1);
        CHECK.due("P22 by NAME 0", wall.price(2, 1), 1);
        CHECK.due("P22 what -1", wall.price(0, -1), NONE);
        CHECK.due("P22 what 2", wall.price(0, 2), NONE);
        CHECK.due("P22 whatever PENCE it has", wall.price(0, 0), 1);
        CHECK.due("P22 of several the least bits", wall.price(0, 1), 2);
        wall.evening(1);
        CHECK.due("P22 GONE", wall.price(2, 0), NONE);
        CHECK.due("P22 GONE", wall.price(2, 1), NONE);
        CHECK.due("P22 no CITY", new NameWall().price(0, 0), NONE);
        CHECK.due("P22 GONE ones do not help", beheaded("sr6;ni40;ni40;ni1").price(0, 0), NONE);
        NameWall alone = beheaded("sr1;ni9;ni1");
        CHECK.due("P22 nobody else STANDS", alone.price(0, 0), NONE);
        Check.lawful(alone, "y:0");
        CHECK.due("P22 no LOSS: nothing", alone.price(0, 0), 0);
        CHECK.due("P22 no LOSS: nobody", alone.price(0, 1), 0);
    }

    private static void priceOfMany() {
        String seven = ";nv1w9;nv1w9;nv1w9;nv1w9;nv1w9;nv1w9;nv1w9";
        NameWall just = Check.city("sr7;n" + seven);
        CHECK.due("P22 all seven, the most WAGES", just.price(0, 0), 63);
        CHECK.due("P22 all seven", just.price(0, 1), 254);
        NameWall six = Check.city("sr6;n" + seven);
        CHECK.due("P22 six of seven, the least bits", six.price(0, 1), 126);
        CHECK.due("P22 all seven are not enough", Check.city("sr8;n" + seven).price(0, 0), NONE);
        just.hoarse(7);
        CHECK.due("P22 VOICE 0 of a HOARSE one", just.price(0, 0), NONE);
        NameWall free = Check.city("sr3;nv0;nw0;nw0;n;tb3");
        CHECK.due("P22 nothing but bits: WAGE 0", free.price(0, 0), 0);
        CHECK.due("P22 the least bits of three for nothing", free.price(0, 1), 2);
        CHECK.due("P22 itself does not help", Check.city("sr3;nv9w0;nv0").price(0, 0), NONE);
    }

    /** "all SHOUTS of today .. none has more than DROWN"; "NONE: no CITY." */
    private static void packedByDrown() {
        CHECK.due("P23 no CITY", new NameWall().packed(), NONE);
        for (int drown = 1; drown <= 4; drown++) {
            NameWall wall = Check.city("sh1d" + drown + ";nw0;nw0;nw0;nw0;nw0;nw0;nw0;nw0");
            CHECK.due("P23 no SHOUTS", wall.packed(), 0);
            for (int shouts = 1; shouts <= 8; shouts++) {
                wall.shout(shouts - 1, shouts % 8, 0);
                CHECK.due("P23 " + shouts + " by " + drown, wall.packed(), (shouts + drown - 1) / drown);
            }
            wall.evening(1);
            CHECK.due("P23 none of today", wall.packed(), 0);
        }
    }

    /** "so that no two are of LIKE NAMES (nor of one NAME twice)". */
    private static void packedApart() {
        NameWall like = Check.city("sd4;nw0g1;nw0g1;nw0g1;nw0g1;nw0g1;nw0g1;nw0g1;nw0g1");
        NameWall unlike = Check.city("sd4;nw0g1;nw0g2;nw0g3;nw0g4;nw0;nw0;nw0;nw0");
        NameWall same = Check.city("sd4;nw0;nw0;nw0;nw0;nw0;nw0;nw0;nw0");
        for (int shouts = 1; shouts <= 8; shouts++) {
            like.shout(shouts - 1, shouts % 8, 0);
            CHECK.due("P23 all LIKE: " + shouts, like.packed(), shouts);
            unlike.shout(shouts - 1, shouts % 8, 3);
            CHECK.due("P23 none LIKE: " + shouts, unlike.packed(), (shouts + 3) / 4);
        }
        for (int shouts = 1; shouts <= 7; shouts++) {
            same.shout(shouts, 0, shouts % 4);
            CHECK.due("P23 of one NAME: " + shouts, same.packed(), shouts);
        }
        same.shout(0, 1, 0);
        CHECK.due("P23 one of another", same.packed(), 7);
        NameWall both = Check.city("sd4;nw0g1;nw0g1;nw0;nw0;nw0");
        both.shout(2, 0, 0);
        both.shout(3, 0, 0);
        both.shout(4, 1, 0);
        CHECK.due("P23 one NAME twice and a LIKE one", both.packed(), 3);
        both.fog(true);
        CHECK.due("P23 in FOG", both.packed(), 3);
    }

    /** "NAMES (bits) that STAND and are TIED to just one that STANDS". */
    private static void weak() {
        CHECK.due("P24 no CITY", new NameWall().weak(), NONE);
        CHECK.due("P24 TIED to none", Check.city("n;n;n").weak(), 0);
        CHECK.due("P24 TIED to one", Check.city("n;n;n;t").weak(), 3);
        CHECK.due("P24 TIED to one by two TIES", Check.city("n;n;n;t;ta1b0").weak(), 3);
        CHECK.due("P24 TIED to two", Check.city("n;n;n;t;tb2").weak(), 6);
        CHECK.due("P24 each TIED to two", Check.city("n;n;n;t;tb2;ta1b2").weak(), 0);
        CHECK.due("P24 one of two is GONE", beheaded("n;n;ni1;t;tb2;ta1b2").weak(), 3);
        CHECK.due("P24 the only one is GONE", beheaded("n;ni1;t").weak(), 0);
        CHECK.due("P24 all GONE", beheaded("ni1;ni1;t").weak(), 0);
        CHECK.due("P24 NAME 7", Check.city("n;n;n;n;n;n;n;n;ta6b7").weak(), 192);
    }

    /** "into how many parts those who STAND fall by TIES". */
    private static void parts() {
        CHECK.due("P25 no CITY", new NameWall().parts(), NONE);
        CHECK.due("P25 all GONE", beheaded("ni1;ni1;t").parts(), 0);
        CHECK.due("P25 one STANDS", beheaded("n;ni1;t").parts(), 1);
        CHECK.due("P25 two TIED", Check.city("n;n;t").parts(), 1);
        CHECK.due("P25 two apart", Check.city("n;n").parts(), 2);
        StringBuilder city = new StringBuilder("n;n;n;n;n;n;n;n");
        CHECK.due("P25 eight apart", Check.city(city.toString()).parts(), 8);
        for (int ties = 1; ties <= 7; ties++) {
            city.append(";ta").append(ties - 1).append('b').append(ties);
            CHECK.due("P25 eight by " + ties, Check.city(city.toString()).parts(), 8 - ties);
        }
        CHECK.due("P25 TIED by NAME 0, GONE", beheaded("ni1;n;n;t;tb2").parts(), 2);
        CHECK.due("P25 TIED by a GONE one", beheaded("n;ni1;n;t;ta1b2").parts(), 2);
    }

    /** "NAMES (bits) that STAND without which the others who STAND fall into more parts than there are now". */
    private static void bridges() {
        CHECK.due("P26 no CITY", new NameWall().bridges(), NONE);
        CHECK.due("P26 all GONE", beheaded("ni1;ni1;t").bridges(), 0);
        CHECK.due("P26 one STANDS", beheaded("n;ni1;t").bridges(), 0);
        CHECK.due("P26 apart: fewer parts", Check.city("n;n;n").bridges(), 0);
        CHECK.due("P26 an end: as many parts", Check.city("n;n;t").bridges(), 0);
        CHECK.due("P26 between: more parts", Check.city("n;n;n;t;ta1b2").bridges(), 2);
        CHECK.due("P26 a ring: as many parts", Check.city("n;n;n;t;ta1b2;tb2").bridges(), 0);
        CHECK.due("P26 a GONE one is none", beheaded("n;ni1;n;t;ta1b2").bridges(), 0);
        CHECK.due("P26 its ring is broken", beheaded("n;n;n;ni1;t;ta1b2;ta2b3;tb3").bridges(), 2);
        CHECK.due("P26 NAME 0", Check.city("n;n;n;t;tb2").bridges(), 1);
        CHECK.due("P26 NAME 7", Check.city("n;n;n;n;n;n;n;n;ta6b7;ta7b5").bridges(), 128);
    }

    /** "of all pairs who STAND in unlike parts the one whose VOICES are the greatest (of several the least)". */
    private static void bonds() {
        CHECK.due("P27 no CITY", new NameWall().bond(), NONE);
        CHECK.due("P27 all GONE", beheaded("ni1;ni1").bond(), NONE);
        CHECK.due("P27 one STANDS", beheaded("n;ni1").bond(), NONE);
        CHECK.due("P27 one part", Check.city("n;n;t").bond(), NONE);
        CHECK.due("P27 two parts", Check.city("n;n").bond(), 1);
        CHECK.due("P27 VOICES of 0", Check.city("nv0;nv0;nv0").bond(), 1);
        CHECK.due("P27 the greatest VOICES, the last pair", Check.city("nv8;nv8;nv8;nv8;nv8;nv8;nv9;nv9").bond(), 67);
        CHECK.due("P27 of several the least", Check.city("nv8;nv9;nv9;nv9").bond(), 12);
        CHECK.due("P27 the loudest are in one part", Check.city("nv1;nv9;nv9;t;ta1b2;nv1").bond(), 13);
        NameWall longest = Check.city("n;n;n;n;n;n;n;n;ta6b5;ta5b4;ta4b3;ta3b2;ta2b1;ta1b0;tb7");
        CHECK.due("P27 the longest way from 6 to 7", longest.bond(), NONE);
        CHECK.due("P25 the longest way from 6 to 7", longest.parts(), 1);
        CHECK.due("P27 the loudest are with NAME 0", Check.city("nv0;nv5;nv9;tb2").bond(), 12);
        CHECK.due("P27 GONE ones are none", beheaded("nv9i1;nv1;nv2").bond(), 12);
        CHECK.due("P27 not TIED, but in one part", Check.city("nv9;n;nv9;nv0;t;ta1b2").bond(), 3);
    }

    /** "DENTS (12 at most): at a place (0 .. 2) there is a letter (0 .. 4)"; "NONE: out of bounds, there are 12." */
    private static void dents() {
        NameWall wall = new NameWall();
        int dents = 0;
        for (int place = -1; place <= 3; place++) {
            for (int letter = -1; letter <= 5; letter += 6) {
                CHECK.due("P28 place " + place + " letter " + letter, wall.dent(place, letter, false), NONE);
            }
            for (int letter = 0; letter <= 4; letter += 4) {
                boolean isRight = place >= 0 && place <= 2;
                dents += isRight ? 1 : 0;
                CHECK.due("P28 place " + place + " letter " + letter, wall.dent(place, letter, false),
                        isRight ? dents : NONE);
            }
        }
        CHECK.due("P43 six of them", wall.count(12), 6);
        CHECK.due("P29 they count", wall.fits(-1), 27);
        for (int more = 7; more <= 12; more++) {
            CHECK.due("P28 again the same", wall.dent(2, 4, false), more);
        }
        CHECK.due("P28 a 13th", wall.dent(2, 4, false), NONE);
        CHECK.due("P28 a 13th out of bounds", wall.dent(3, 4, false), NONE);
        CHECK.due("P29 it does not count", wall.dent(0, 1, true), NONE);
        CHECK.due("P29 they count", wall.fits(-1), 27);
        NameWall last = new NameWall();
        for (int more = 1; more <= 11; more++) {
            last.dent(0, 0, false);
        }
        CHECK.due("P28 the 12th", last.dent(2, 4, true), 12);
        CHECK.due("P29 the 12th counts", last.fits(-1), 20);
        CHECK.due("P29 the 12th counts", last.fits(0), 104);
    }

    /** "FITS: how many (i NONE), the i-th. NONE: no such one." */
    private static void fits() {
        NameWall wall = new NameWall();
        CHECK.due("P29 i -2", wall.fits(-2), NONE);
        CHECK.due("P29 how many of all", wall.fits(-1), 125);
        int i = 0;
        for (int first = 0; first < 5; first++) {
            for (int second = 0; second < 5; second++) {
                for (int third = 0; third < 5; third++) {
                    CHECK.due("P29 all, rising", wall.fits(i), 100 * first + 10 * second + third);
                    i++;
                }
            }
        }
        CHECK.due("P29 i 125", wall.fits(125), NONE);
        wall.dent(0, 4, true);
        wall.dent(1, 4, true);
        wall.dent(2, 4, true);
        CHECK.due("P29 one", wall.fits(-1), 1);
        CHECK.due("P29 the only one", wall.fits(0), 444);
        CHECK.due("P29 no second", wall.fits(1), NONE);
        wall.dent(2, 4, false);
        CHECK.due("P29 none", wall.fits(-1), 0);
        CHECK.due("P29 no first", wall.fits(0), NONE);
        CHECK.due("P29 i -2", wall.fits(-2), NONE);
    }

    /** "by which yes and no are least apart in number among what fits (of several the least)"; "NONE: nothing fits." */
    private static void looks() {
        NameWall wall = new NameWall();
        CHECK.due("P30 all alike: the least", wall.best(), 0);
        for (int letter = 0; letter < 3; letter++) {
            wall.dent(2, letter, false);
        }
        CHECK.due("P30 half of all", wall.best(), 23);
        wall.dent(2, 3, false);
        CHECK.due("P30 just one letter there", wall.best(), 0);
        for (int letter = 0; letter < 4; letter++) {
            wall.dent(0, letter, false);
        }
        CHECK.due("P30 a fifth of five", wall.best(), 10);
        wall.dent(1, 4, true);
        CHECK.due("P30 one fits", wall.fits(-1), 1);
        CHECK.due("P30 one fits: all are alike", wall.best(), 0);
        wall.dent(1, 4, false);
        CHECK.due("P30 nothing fits", wall.best(), NONE);
        NameWall two = new NameWall();
        for (int place = 0; place < 3; place++) {
            two.dent(place, 0, false);
            two.dent(place, 1, false);
            two.dent(place, 2, place == 1);
        }
        CHECK.due("P30 half of four: the least", two.best(), 3);
        two.dent(0, 3, false);
        CHECK.due("P30 half of two", two.best(), 23);
    }

    /** "HIDDEN: no such one, GONE, it has SHOUTED, no such HOURS." */
    private static void rivals() {
        for (int hours = 1; hours <= 6; hours++) {
            NameWall wall = Check.city("sh" + hours + ";nv7;n");
            for (int x = -1; x <= hours; x++) {
                for (int y = -1; y <= hours; y++) {
                    boolean isRight = x >= 0 && x < hours && y >= 0 && y < hours;
                    CHECK.due("P31 " + x + " and " + y + " of " + hours, wall.rival(0, x, y),
                            isRight ? x == y ? 0 : 7 : HIDDEN);
                }
            }
        }
        NameWall wall = Check.city("nw0;nw0v0;ni1");
        CHECK.due("P31 name -1", wall.rival(-1, 0, 1), HIDDEN);
        CHECK.due("P31 name 3", wall.rival(3, 0, 1), HIDDEN);
        CHECK.due("P31 the last one", wall.rival(2, 0, 1), 3);
        CHECK.due("P31 VOICE 0", wall.rival(1, 0, 1), 0);
        wall.shout(0, 1, 0);
        CHECK.due("P31 it has SHOUTED", wall.rival(0, 0, 1), HIDDEN);
        CHECK.due("P31 it was SHOUTED", wall.rival(1, 0, 1), 0);
        wall.evening(1);
        CHECK.due("P31 the next DAY", wall.rival(0, 0, 1), 3);
        CHECK.due("P31 GONE", wall.rival(2, 0, 1), HIDDEN);
        CHECK.due("P31 no CITY", new NameWall().rival(0, 0, 0), HIDDEN);
    }

    /** "VOICE (0, if HOARSE), if HEARD (with all SHOUTS of today, no FOG), else 0"; "as many as DROWN in HOUR y". */
    private static void rivalsByDrown() {
        for (int drown = 1; drown <= 4; drown++) {
            NameWall wall = Check.city("sh2d" + drown + ";nv7;nw0;nw0;nw0;nw0");
            for (int shouts = 0; shouts <= drown; shouts++) {
                CHECK.due("P31 " + shouts + " in x, DROWN " + drown, wall.rival(0, 1, 0), shouts < drown ? 7 : 0);
                CHECK.due("P31 the rival there, too", wall.rival(0, 1, 1), 0);
                CHECK.due("P31 none in the other HOUR", wall.rival(0, 0, 1), 7);
                if (shouts < 4) {
                    wall.shout(shouts + 1, 0, 1);
                }
            }
            wall.fog(true);
            CHECK.due("P31 no FOG", wall.rival(0, 0, 1), 7);
            wall.hoarse(0);
            CHECK.due("P31 HOARSE", wall.rival(0, 0, 1), 0);
        }
    }

    /** "how many (i NONE), the i-th (rising). NONE: no such one, GONE, it has SHOUTED." */
    private static void rests() {
        NameWall wall = Check.city("sh6d1;nv0w0;nw0;nw0;ni1");
        CHECK.due("P32 VOICE 0: all", wall.rests(0, -1), 36);
        CHECK.due("P32 i -2", wall.rests(0, -2), NONE);
        for (int i = 0; i < 36; i++) {
            CHECK.due("P32 all, rising", wall.rests(0, i), 10 * (i / 6) + i % 6);
        }
        CHECK.due("P32 i 36", wall.rests(0, 36), NONE);
        CHECK.due("P32 none", wall.rests(1, -1), 0);
        CHECK.due("P32 none: no first", wall.rests(1, 0), NONE);
        CHECK.due("P32 name -1", wall.rests(-1, -1), NONE);
        CHECK.due("P32 name 4", wall.rests(4, -1), NONE);
        wall.shout(2, 0, 5);
        CHECK.due("P32 it has SHOUTED", wall.rests(2, -1), NONE);
        CHECK.due("P32 it has SHOUTED", wall.rests(2, 0), NONE);
        wall.evening(1);
        CHECK.due("P32 GONE", wall.rests(3, -1), NONE);
        CHECK.due("P32 the next DAY", wall.rests(2, -1), 0);
        CHECK.due("P32 no CITY", new NameWall().rests(0, -1), NONE);
        NameWall one = Check.city("sh1d4;n;n");
        CHECK.due("P32 one HOUR", one.rests(0, -1), 1);
        CHECK.due("P32 one HOUR", one.rests(0, 0), 0);
        CHECK.due("P32 one HOUR, no second", one.rests(0, 1), NONE);
        // Just HOUR 1 is free: the rival takes it, the one stands wherever it likes.
        NameWall free = Check.city("sh2d1;n;nw0;n");
        free.shout(1, 2, 0);
        CHECK.due("P32 one free HOUR", free.rests(0, -1), 2);
        CHECK.due("P32 the first", free.rests(0, 0), 1);
        CHECK.due("P32 the second", free.rests(0, 1), 11);
        CHECK.due("P32 no third", free.rests(0, 2), NONE);
    }

    /** "behind n (0 .. 30) DAYS, if a VOICE v (0 .. 9) SHOUTS it each DAY, at a chance (0 .. 100) of FOG". */
    private static void oddsBounds() {
        int all = 1000000000;
        NameWall wall = Check.city("sr1c99;ni30;ni29;ni31;ni1");
        CHECK.due("P33 n -1", wall.odds(0, -1, 1, 50), NONE);
        CHECK.due("P33 n 0", wall.odds(0, 0, 0, 100), all);
        CHECK.due("P33 n 30, DEPTH 30", wall.odds(0, 30, 0, 0), 0);
        CHECK.due("P33 n 29, DEPTH 30", wall.odds(0, 29, 0, 0), all);
        CHECK.due("P33 n 30, DEPTH 31", wall.odds(2, 30, 0, 0), all);
        CHECK.due("P33 n 31", wall.odds(0, 31, 0, 0), NONE);
        CHECK.due("P33 v -1", wall.odds(0, 1, -1, 50), NONE);
        CHECK.due("P33 v 0", wall.odds(3, 1, 0, 0), 0);
        CHECK.due("P33 v 1", wall.odds(3, 1, 1, 0), all);
        CHECK.due("P33 v 9", wall.odds(3, 1, 9, 0), all);
        CHECK.due("P33 v 10", wall.odds(3, 1, 10, 0), NONE);
        CHECK.due("P33 chance -1", wall.odds(3, 1, 1, -1), NONE);
        CHECK.due("P33 chance 0", wall.odds(3, 30, 1, 0), all);
        CHECK.due("P33 chance 1", wall.odds(3, 1, 1, 1), 990000000);
        CHECK.due("P33 chance 99", wall.odds(3, 1, 1, 99), 10000000);
        CHECK.due("P33 chance 100", wall.odds(3, 1, 9, 100), 0);
        CHECK.due("P33 chance 101", wall.odds(3, 1, 1, 101), NONE);
        CHECK.due("P33 name -1", wall.odds(-1, 0, 0, 0), NONE);
        CHECK.due("P33 name 4", wall.odds(4, 0, 0, 0), NONE);
        wall.evening(1);
        CHECK.due("P33 GONE", wall.odds(3, 0, 9, 0), NONE);
        CHECK.due("P33 no CITY", new NameWall().odds(0, 0, 0, 0), NONE);
    }

    /** "each DAY, for each DEPTH above 0: chance by 100 of it, cut, FOG, the rest HEARD". */
    private static void oddsCut() {
        for (int chance : new int[] {0, 1, 7, 33, 50, 67, 99, 100}) {
            // DEPTH 1: FOG ends it, what is HEARD keeps it as it is.
            NameWall flat = Check.city("sr1;ni1;n");
            // DEPTH 2: two FOGS running end it; what is HEARD brings it back to 2.
            NameWall two = Check.city("sr1c2;ni2;ni2");
            long at1 = 1000000000;
            long first = 0;
            long second = 1000000000;
            for (int n = 1; n <= 30; n++) {
                at1 -= at1 * chance / 100;
                CHECK.due("P33 DEPTH 1, n " + n + ", chance " + chance, flat.odds(0, n, 1, chance), at1);
                long fogFirst = first * chance / 100;
                long fogSecond = second * chance / 100;
                second = first - fogFirst + second - fogSecond;
                first = fogSecond;
                CHECK.due("P33 DEPTH 2, n " + n + ", chance " + chance, two.odds(0, n, 9, chance), first + second);
            }
        }
    }

    /** "(LOSS with s 0) .. (v more, LOSS with s 1); p as now, the DAY goes on". */
    private static void oddsHeld() {
        int all = 1000000000;
        NameWall once = Check.city("sc5;ni5;ni5", "y:y=0?4;y:14");
        CHECK.due("P33 held once: 5 and 9 less 4 is 5, and 9 less 14", once.odds(0, 2, 9, 0), 0);
        CHECK.due("P33 held once: 5 and 9 less 4 is 5", once.odds(0, 1, 9, 0), all);
        NameWall high = Check.city("sc5;ni5;ni5", "y:y=0?0;y:s*4+9");
        CHECK.due("P33 5 and 9 is 5, and 9 less 13", high.odds(0, 2, 9, 0), all);
        CHECK.due("P33 5 and 8 is 5, and 8 less 13", high.odds(0, 2, 8, 0), 0);
        NameWall low = Check.city("sc5;ni1;ni1", "y:9-s*9+y");
        CHECK.due("P33 below 0 is GONE for good", low.odds(0, 3, 9, 30), 343000000);
        NameWall now = Check.city("sr1;nw5i1p3;nv0i40p9", "y:p-3");
        CHECK.due("P33 p as now", now.odds(0, 30, 0, 0), all);
        now.shout(0, 1, 0);
        CHECK.due("P33 p as now", now.odds(0, 1, 4, 0), 0);
        CHECK.due("P33 p as now", now.odds(0, 1, 5, 0), all);
        NameWall fog = Check.city("ni1;ni2;n", "y:1+s");
        CHECK.due("P33 s 0 in FOG: 1 less 1", fog.odds(0, 1, 9, 100), 0);
        CHECK.due("P33 s 0 in FOG: 2 less 1", fog.odds(1, 1, 9, 100), all);
        CHECK.due("P33 s 1 without: 2 and 0 less 2", fog.odds(1, 1, 0, 0), 0);
        NameWall goesOn = Check.city("n;n", "y:y=7?99;y:0");
        goesOn.evening(5);
        CHECK.due("P33 up to DAY 6", goesOn.odds(0, 2, 0, 0), all);
        CHECK.due("P33 up to DAY 7", goesOn.odds(0, 3, 0, 0), 0);
        NameWall deep = Check.city("sr0c99;ni99;n");
        CHECK.due("P33 the greatest DEPTH", deep.odds(0, 30, 9, 50), all);
        CHECK.due("P33 the greatest LOSS", Check.city("sc99;ni99;n", "y:9999").odds(0, 1, 0, 0), 0);
        CHECK.due("P33 the greatest LOSS and a VOICE", Check.city("sc99;ni99;n", "y:9999").odds(0, 1, 1, 0), all);
    }

    /** "the least VOICE (0 .. 99) by which a NAME is no less deep (s 1)"; "NONE: no such one, GONE." */
    private static void needs() {
        NameWall wall = Check.city("sr0;nk3;n;ni1k1");
        CHECK.due("P34 name -1", wall.need(-1), NONE);
        CHECK.due("P34 3", wall.need(0), 3);
        CHECK.due("P34 0", wall.need(1), 0);
        CHECK.due("P34 the last NAME", wall.need(2), 1);
        CHECK.due("P34 name 3", wall.need(3), NONE);
        wall.evening(1);
        CHECK.due("P34 GONE", wall.need(2), NONE);
        CHECK.due("P34 no CITY", new NameWall().need(0), NONE);
        for (int loss : new int[] {0, 1, 98, 99, 100, 9999}) {
            CHECK.due("P34 LOSS " + loss, Check.city("n;n", "y:" + loss).need(0), Math.min(loss, 99));
            CHECK.due("P34 LOSS " + loss + " by s", Check.city("n;n", "y:s*" + loss).need(0), Math.min(loss, 99));
        }
        CHECK.due("P34 at CUT", Check.city("sc20;n;n", "y:7").need(0), 7);
        CHECK.due("P34 no LOSS below 0", Check.city("n;n", "y:0-9").need(0), 0);
        NameWall shouted = Check.city("n;nw0;nw0", "y:s");
        shouted.shout(1, 0, 0);
        shouted.shout(2, 0, 0);
        CHECK.due("P34 s is 1, whatever there is", shouted.need(0), 1);
    }

    /** "of those who STAND the one with the greatest, the least DEPTH (of several the lowest)". */
    private static void deepest() {
        CHECK.due("P35 no CITY", new NameWall().sharpest(), NONE);
        CHECK.due("P36 no CITY", new NameWall().faintest(), NONE);
        CHECK.due("P35 all alike", Check.city("n;n;n").sharpest(), 0);
        CHECK.due("P36 all alike", Check.city("n;n;n").faintest(), 0);
        CHECK.due("P35 the last by 1", Check.city("n;n;n;n;n;n;n;ni21").sharpest(), 7);
        CHECK.due("P36 the last by 1", Check.city("n;n;n;n;n;n;n;ni19").faintest(), 7);
        CHECK.due("P35 of several", Check.city("ni8;ni9;ni9").sharpest(), 1);
        CHECK.due("P36 of several", Check.city("ni9;ni8;ni8").faintest(), 1);
        NameWall one = beheaded("ni1;ni3;ni1");
        CHECK.due("P35 the only one", one.sharpest(), 1);
        CHECK.due("P36 the only one, of DEPTH 1", one.faintest(), 1);
        one.evening(1);
        CHECK.due("P35 all GONE", one.sharpest(), NONE);
        CHECK.due("P36 all GONE", one.faintest(), NONE);
    }

    /** "who has most PENCE (of all; of several the lowest)". */
    private static void richest() {
        CHECK.due("P37 no CITY", new NameWall().richest(), NONE);
        CHECK.due("P37 all alike", Check.city("n;n;n").richest(), 0);
        CHECK.due("P37 no PENCE", Check.city("np0;np0").richest(), 0);
        CHECK.due("P37 the last by 1", Check.city("n;n;n;n;n;n;n;np6").richest(), 7);
        CHECK.due("P37 of several", Check.city("np8;np9;np9").richest(), 1);
        CHECK.due("P37 a GONE one", beheaded("n;np6i1").richest(), 1);
        CHECK.due("P37 all GONE", beheaded("np6i1;np7i1").richest(), 1);
        NameWall paid = Check.city("np98;np99w2");
        paid.shout(1, 0, 0);
        CHECK.due("P37 beyond 99", paid.name(1, 3), 101);
        CHECK.due("P37 beyond 99", paid.richest(), 1);
    }

    /** "FRIENDS of a NAME (bits)"; "NONE: no such one." */
    private static void friends() {
        NameWall star = Check.city("n;n;n;n;n;n;n;n;tb7;ta1b7;ta2b7;ta3b7;ta4b7;ta5b7;ta6b7");
        CHECK.due("P38 name -1", star.friends(-1), NONE);
        CHECK.due("P38 seven", star.friends(7), 127);
        CHECK.due("P38 one", star.friends(0), 128);
        CHECK.due("P38 name 8", star.friends(8), NONE);
        CHECK.due("P38 none", Check.city("n;n").friends(1), 0);
        CHECK.due("P38 the first that is not", Check.city("n;n").friends(2), NONE);
        CHECK.due("P38 no CITY", new NameWall().friends(0), NONE);
    }

    /** "NAMES (bits) that STAND and would get something this EVENING". */
    private static void helped() {
        CHECK.due("P39 no CITY", new NameWall().helped(), NONE);
        CHECK.due("P39 all GONE", beheaded("ni1;ni1").helped(), 0);
        NameWall wall = Check.city("sd1;nv0w0;nv1w0;nv1w0g1;ng1;n;n;n;n");
        CHECK.due("P39 no SHOUTS", wall.helped(), 0);
        wall.shout(0, 7, 0);
        CHECK.due("P39 VOICE 0", wall.helped(), 0);
        wall.shout(1, 7, 1);
        CHECK.due("P39 VOICE 1", wall.helped(), 128);
        wall.shout(2, 3, 2);
        CHECK.due("P39 1 of a LIKE one", wall.helped(), 128 | 8 | 4);
        wall.fog(true);
        CHECK.due("P39 FOG", wall.helped(), 0);
        NameWall first = Check.city("n;nw0");
        first.shout(1, 0, 0);
        CHECK.due("P39 NAME 0", first.helped(), 1);
        wall.fog(false);
        CHECK.due("P39 no FOG", wall.helped(), 140);
        wall.hoarse(2);
        CHECK.due("P39 a HOARSE one: just who is LIKE", wall.helped(), 132);
    }

    /** "NAMES (bits) that would go GONE this EVENING". */
    private static void doomed() {
        CHECK.due("P40 no CITY", new NameWall().doomed(), NONE);
        NameWall wall = Check.city("sr3;ni1;ni2;ni3;ni4;nv1w0;nv1w0;n;n");
        CHECK.due("P40 up to LOSS, not one more", wall.doomed(), 7);
        wall.shout(4, 2, 0);
        CHECK.due("P40 3 and 1 less 3", wall.doomed(), 3);
        wall.shout(5, 1, 1);
        CHECK.due("P40 2 and 1 less 3", wall.doomed(), 3);
        wall.evening(1);
        CHECK.due("P40 GONE ones go no more", wall.doomed(), 12);
        wall.evening(1);
        CHECK.due("P40 nobody", wall.doomed(), 0);
        CHECK.due("P40 all GONE", beheaded("ni1;ni1").doomed(), 0);
        CHECK.due("P40 all", Check.city("n;n;n;n;n;n;n;n", "y:d").doomed(), 255);
        CHECK.due("P40 all but 1 of DEPTH", Check.city("n;n;n;n;n;n;n;n", "y:d-1").doomed(), 0);
    }
}
