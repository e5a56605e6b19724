/** Promises 24 to 27, 35 to 37, 39 and 40: WEAK, PARTS, BRIDGES, BOND, who is deepest and richest, HELPED, DOOMED. */
public final class TieTest {
    private static final Check CHECK = new Check();

    public static void main(String[] args) {
        noCity();
        chain();
        loops();
        bonds();
        deepest();
        richest();
        helped();
        doomed();
        allGone();
        CHECK.end();
    }

    private static void noCity() {
        NameWall wall = new NameWall();
        CHECK.due("P24 no CITY", wall.weak(), NameWall.NONE);
        CHECK.due("P25 no CITY", wall.parts(), NameWall.NONE);
        CHECK.due("P26 no CITY", wall.bridges(), NameWall.NONE);
        CHECK.due("P27 no CITY", wall.bond(), NameWall.NONE);
        CHECK.due("P35 no CITY", wall.sharpest(), NameWall.NONE);
        CHECK.due("P36 no CITY", wall.faintest(), NameWall.NONE);
        CHECK.due("P37 no CITY", wall.richest(), NameWall.NONE);
        CHECK.due("P39 no CITY", wall.helped(), NameWall.NONE);
        CHECK.due("P40 no CITY", wall.doomed(), NameWall.NONE);
    }

    private static void chain() {
        // 0 - 3 - 1 - 2, 2 dies first; 4 alone.
        NameWall wall = Check.city("n;n;ni1;n;n;tb3;ta3b1;ta1b2");
        CHECK.due("P24 the ends", wall.weak(), 5);
        CHECK.due("P25 two", wall.parts(), 2);
        CHECK.due("P26 those between", wall.bridges(), 10);
        wall.evening(1);
        CHECK.due("P24 TIED to a GONE one does not count", wall.weak(), 3);
        CHECK.due("P25 still two", wall.parts(), 2);
        CHECK.due("P26 one between", wall.bridges(), 8);
        NameWall twice = Check.city("n;n;n;t;t;ta1b0;ta1b2");
        CHECK.due("P24 TIED twice to the same one", twice.weak(), 5);
        NameWall apart = Check.city("n;n;n");
        CHECK.due("P24 nobody", apart.weak(), 0);
        CHECK.due("P25 each for itself", apart.parts(), 3);
        CHECK.due("P26 nobody", apart.bridges(), 0);
        NameWall split = Check.city("n;ni1;n;t;ta1b2");
        CHECK.due("P25 one", split.parts(), 1);
        split.evening(1);
        CHECK.due("P25 a GONE one ties nobody", split.parts(), 2);
    }

    private static void loops() {
        NameWall ring = Check.city("n;n;n;n;t;ta1b2;ta2b3;ta3b0");
        CHECK.due("P25 one", ring.parts(), 1);
        CHECK.due("P26 a ring has none", ring.bridges(), 0);
        CHECK.due("P24 a ring has none", ring.weak(), 0);
        NameWall star = Check.city("n;n;n;n;n;n;n;n;tb7;ta1b7;ta2b7;ta3b7;ta4b7;ta5b7;ta6b7");
        CHECK.due("P26 the middle", star.bridges(), 128);
        CHECK.due("P24 all others", star.weak(), 127);
        NameWall longest = Check.city("n;n;n;n;n;n;n;n;tb7;ta7b1;ta1b6;ta6b2;ta2b5;ta5b3;ta3b4");
        CHECK.due("P25 the longest chain", longest.parts(), 1);
        CHECK.due("P26 all between", longest.bridges(), 238);
        CHECK.due("P27 one part alone", longest.bond(), NameWall.NONE);
        NameWall back = Check.city("n;n;n;n;n;n;n;n;ta7b6;ta6b5;ta5b4;ta4b3;ta3b2;ta2b1;ta1b0");
        CHECK.due("P25 the chain the other way", back.parts(), 1);
        NameWall first = Check.city("n;n;n;t;tb2");
        CHECK.due("P26 the first one", first.bridges(), 1);
        CHECK.due("P24 not the first one", first.weak(), 6);
    }

    private static void bonds() {
        NameWall wall = Check.city("nv9;nv8;nv2;nv2;nv1;t;ta2b4");
        CHECK.due("P27 9 and 2, the least of several", wall.bond(), 2);
        CHECK.due("P27 8 and 9", Check.city("nv1;nv8;nv9;t").bond(), 12);
        NameWall loud = Check.city("nv1;nv7;nv9i1;t");
        loud.hoarse(1);
        CHECK.due("P27 VOICE of a HOARSE one, too", loud.bond(), 12);
        loud.evening(1);
        CHECK.due("P27 GONE ones do not count", loud.bond(), NameWall.NONE);
        CHECK.due("P27 VOICES of 0", Check.city("nv0;nv0").bond(), 1);
        NameWall cut = Check.city("nv5;ni1;nv4;nv3;t;ta1b2;tb3");
        CHECK.due("P27 one part", cut.bond(), NameWall.NONE);
        cut.evening(1);
        CHECK.due("P27 unlike parts then", cut.bond(), 2);
        CHECK.due("P27 the lower one ahead", Check.city("nv9;n;n;n;n;n;n;nv9").bond(), 7);
    }

    private static void deepest() {
        NameWall wall = Check.city("ni9;ni3;ni9;ni3;ni1");
        CHECK.due("P35 the lowest of several", wall.sharpest(), 0);
        CHECK.due("P36 the least", wall.faintest(), 4);
        wall.evening(1);
        CHECK.due("P36 of those who STAND, the lowest of several", wall.faintest(), 1);
        wall.shout(0, 2, 0);
        wall.evening(1);
        CHECK.due("P35 DEPTHS of now", wall.sharpest(), 2);
        CHECK.due("P36 DEPTHS of now", wall.faintest(), 0);
    }

    private static void richest() {
        NameWall wall = Check.city("ni1p8;np6w2;np8;np7");
        CHECK.due("P37 the lowest of several", wall.richest(), 0);
        wall.evening(1);
        CHECK.due("P37 of all", wall.richest(), 0);
        wall.shout(1, 3, 0);
        CHECK.due("P37 of several", wall.richest(), 0);
        wall.shout(2, 1, 1);
        CHECK.due("P37 PENCE of now", wall.richest(), 2);
        CHECK.due("P37 no PENCE", Check.city("np0;np0").richest(), 0);
    }

    private static void helped() {
        NameWall wall = Check.city("sd1;nw0;nw0;nw0g1;nw0g1;nv0w0");
        CHECK.due("P39 nobody", wall.helped(), 0);
        wall.shout(0, 2, 0);
        CHECK.due("P39 it and who is LIKE it", wall.helped(), 12);
        wall.shout(4, 1, 1);
        CHECK.due("P39 a VOICE of 0 is nothing", wall.helped(), 12);
        wall.fog(true);
        CHECK.due("P39 FOG", wall.helped(), 0);
        wall.fog(false);
        wall.hoarse(0);
        CHECK.due("P39 HOARSE: just who is LIKE it", wall.helped(), 8);
        wall.shout(1, 4, 0);
        CHECK.due("P39 drowned", wall.helped(), 0);
        NameWall first = Check.city("n;nw0");
        first.shout(1, 0, 0);
        CHECK.due("P39 the first one", first.helped(), 1);
        NameWall mortal = Check.city("sr1;ni1g1;ng1w0;nw0");
        mortal.evening(1);
        mortal.shout(2, 1, 0);
        CHECK.due("P39 a GONE one gets nothing", mortal.helped(), 2);
    }

    private static void doomed() {
        NameWall wall = Check.city("sr2;ni2;ni2w0;ni3;ni1;nw0v1");
        CHECK.due("P40 2 less 2, 1 less 2", wall.doomed(), 11);
        wall.shout(4, 0, 0);
        CHECK.due("P40 2 and 1 less 2", wall.doomed(), 10);
        wall.fog(true);
        CHECK.due("P40 FOG", wall.doomed(), 11);
        wall.evening(1);
        CHECK.due("P40 GONE ones no more", wall.doomed(), 4);
        NameWall lawful = Check.city("ni9;n", "y:d");
        CHECK.due("P40 by the LAW", lawful.doomed(), 3);
    }

    private static void allGone() {
        NameWall wall = Check.city("ni1p7;ni1p9;t");
        wall.evening(1);
        CHECK.due("P24 all GONE", wall.weak(), 0);
        CHECK.due("P25 all GONE", wall.parts(), 0);
        CHECK.due("P26 all GONE", wall.bridges(), 0);
        CHECK.due("P27 all GONE", wall.bond(), NameWall.NONE);
        CHECK.due("P35 all GONE", wall.sharpest(), NameWall.NONE);
        CHECK.due("P36 all GONE", wall.faintest(), NameWall.NONE);
        CHECK.due("P37 all GONE", wall.richest(), 1);
        CHECK.due("P39 all GONE", wall.helped(), 0);
        CHECK.due("P40 all GONE", wall.doomed(), 0);
    }
}
