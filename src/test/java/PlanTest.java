/** Promises 19 to 23 and 34: ALONE, KEEP, RING, PRICE, PACKED, NEED. */
public final class PlanTest {
    private static final Check CHECK = new Check();

    public static void main(String[] args) {
        alone();
        keepLeastDigits();
        keepWages();
        keepBounds();
        keepByLaws();
        rings();
        prices();
        packed();
        need();
        CHECK.end();
    }

    private static void alone() {
        NameWall wall = Check.city("sr3;ni9;ni10;nk1i1;n");
        CHECK.due("P19 9 by 3", wall.alone(0), 3);
        CHECK.due("P19 10 by 3", wall.alone(1), 4);
        CHECK.due("P19 1 by 4", wall.alone(2), 1);
        wall.shout(3, 0, 0);
        CHECK.due("P19 if nobody SHOUTS", wall.alone(0), 3);
        wall.evening(1);
        CHECK.due("P19 GONE", wall.alone(2), NameWall.NONE);
        CHECK.due("P19 no such one", wall.alone(4), NameWall.NONE);
        CHECK.due("P19 below", wall.alone(-1), NameWall.NONE);
        CHECK.due("P19 no CITY", new NameWall().alone(0), NameWall.NONE);
        NameWall slow = Check.city("sr0c99;ni1;ni2", "y:y=199?1;y:0");
        CHECK.due("P19 within 200", slow.alone(0), 200);
        CHECK.due("P19 not within 200", slow.alone(1), NameWall.NONE);
        CHECK.due("P19 not within 200", Check.city("ni1;n", "y:y=200?1;y:0").alone(0), NameWall.NONE);
        slow.evening(1);
        CHECK.due("P19 the DAY goes on", slow.alone(0), 199);
        NameWall half = Check.city("ni8;n", "y:[d+1]/2");
        CHECK.due("P19 8, 4, 2, 1, 0", half.alone(0), 4);
        NameWall grown = Check.city("ni8p3;n", "y:p+s*50");
        CHECK.due("P19 s is 0, PENCE as now", grown.alone(0), 3);
    }

    private static void keepLeastDigits() {
        NameWall wall = Check.city("sr3;n;n;n");
        CHECK.due("P20 3 by 3: 1 SHOUTS 0", wall.keep(1, 1), 1);
        CHECK.due("P20 9, 0, 9 is above 9, 9, 0", wall.keep(1, 0), 909);
        CHECK.due("P20 two", wall.keep(3, 1), 2);
        CHECK.due("P20 1 and 0", wall.keep(3, 0), 109);
        CHECK.due("P20 all", wall.keep(7, 1), 3);
        CHECK.due("P20 1, 2, 0", wall.keep(7, 0), 120);
        NameWall tied = Check.city("sr3;n;n;n;t;tb2;ta1b2");
        CHECK.due("P20 TIED ones for nothing", tied.keep(7, 1), 0);
        CHECK.due("P20 what costs nothing SHOUTS, too", tied.keep(2, 0), 100);
        CHECK.due("P20 no LOSS", Check.city("sr0;n;n;n").keep(7, 0), 999);
        CHECK.due("P20 no LOSS", Check.city("sr0;n;n;n").keep(7, 1), 0);
        NameWall gone = Check.city("ni1;n;ni1;n;ni1");
        gone.evening(1);
        CHECK.due("P20 digits of those who STAND", gone.keep(2, 0), 91);
        CHECK.due("P20 digits of those who STAND", gone.keep(8, 0), 39);
    }

    private static void keepWages() {
        NameWall wall = Check.city("sr3;nw9;nv3w4;nv3w2;nv3w2");
        CHECK.due("P20 the least WAGES", wall.keep(1, 1), 2);
        CHECK.due("P20 of several the least digits", wall.keep(1, 0), 9909);
        NameWall two = Check.city("sr3;np9;nv2w1;nv2w2;nv9w4");
        CHECK.due("P20 two cheap ones", two.keep(1, 1), 3);
        CHECK.due("P20 two cheap ones", two.keep(1, 0), 9009);
        NameWall poor = Check.city("sr3;np3;nv2w2;nv2w2;nv3w4");
        CHECK.due("P20 no more than the PENCE", poor.keep(1, 1), NameWall.NONE);
        NameWall just = Check.city("sr3;np4;nv2w2;nv2w2;nv3w5");
        CHECK.due("P20 just the PENCE", just.keep(1, 1), 4);
        NameWall like = Check.city("sr1;ng1w9p0;ng1w1;nw2v1");
        CHECK.due("P20 LIKE ones help", like.keep(1, 0), 991);
        CHECK.due("P20 LIKE ones help", like.keep(1, 1), 2);
        NameWall hoarse = Check.city("sr3;n;nw0;nw3");
        CHECK.due("P20 not HOARSE", hoarse.keep(1, 1), 0);
        hoarse.hoarse(1);
        CHECK.due("P20 HOARSE", hoarse.keep(1, 1), 3);
        hoarse.shout(2, 0, 0);
        hoarse.fog(true);
        CHECK.due("P20 as if nobody had SHOUTED, no FOG; PENCE as now", hoarse.keep(1, 1), NameWall.NONE);
        CHECK.due("P20 PENCE as now", hoarse.keep(2, 1), 1);
    }

    private static void keepBounds() {
        NameWall wall = Check.city("sr3h1d1;n;n;n;ni1;ni1;ni1;ni1");
        CHECK.due("P20 more than six STAND", wall.keep(1, 0), NameWall.HIDDEN);
        CHECK.due("P20 no such set", wall.keep(128, 0), NameWall.NONE);
        wall.evening(1);
        CHECK.due("P20 one SHOUT can be HEARD", wall.keep(1, 0), 909);
        CHECK.due("P20 but not two", wall.keep(3, 0), NameWall.NONE);
        CHECK.due("P20 GONE ones", wall.keep(9, 0), NameWall.NONE);
        CHECK.due("P20 nobody", wall.keep(0, 0), NameWall.NONE);
        CHECK.due("P20 below", wall.keep(-1, 0), NameWall.NONE);
        CHECK.due("P20 no such what", wall.keep(1, 2), NameWall.NONE);
        CHECK.due("P20 no such what", wall.keep(1, -1), NameWall.NONE);
        CHECK.due("P20 no CITY", new NameWall().keep(1, 0), NameWall.NONE);
        NameWall six = Check.city("sr3h3d2;n;n;n;n;n;n");
        CHECK.due("P20 six", six.keep(63, 0), 103254);
        CHECK.due("P20 six", six.keep(63, 1), 6);
        NameWall all = Check.city("sr9h6;nk1;nv2;nv2;nv2;nv2;nv2");
        CHECK.due("P20 five for one", all.keep(1, 0), 900000);
        CHECK.due("P20 five for one", all.keep(1, 1), 5);
        NameWall five = Check.city("sr3h5d1;n;n;n;n;n;n");
        CHECK.due("P20 five SHOUTS for six", five.keep(63, 0), NameWall.NONE);
    }

    private static void keepByLaws() {
        NameWall once = Check.city("nv9w0;nw0;n;n", "y:s>1?99;y:s=1?9;y:5");
        CHECK.due("P20 LOSS by these SHOUTS: 0 alone SHOUTS 1", once.keep(2, 0), 1099);
        CHECK.due("P20 LOSS by these SHOUTS", once.keep(2, 1), 0);
        NameWall shy = Check.city("nw0;nw0;nw0", "y:s*50");
        CHECK.due("P20 nobody SHOUTS 0", shy.keep(1, 0), 121);
        CHECK.due("P20 nobody SHOUTS anybody", shy.keep(7, 0), 999);
        NameWall rich = Check.city("nw0p7;nv9;n", "y:p");
        CHECK.due("P20 LOSS by PENCE as now", rich.keep(1, 0), 109);
        CHECK.due("P20 LOSS by PENCE as now", rich.keep(1, 1), 1);
    }

    private static void rings() {
        NameWall wall = Check.city("sr3;n;n;n;n;n;n;n");
        CHECK.due("P21 two", wall.ring(3), 1);
        CHECK.due("P21 two others", wall.ring(68), 26);
        CHECK.due("P21 six", wall.ring(126), 123456);
        CHECK.due("P21 seven", wall.ring(127), NameWall.NONE);
        CHECK.due("P21 one", wall.ring(4), NameWall.NONE);
        CHECK.due("P21 nobody", wall.ring(0), NameWall.NONE);
        CHECK.due("P21 no such one", wall.ring(129), NameWall.NONE);
        CHECK.due("P21 below", wall.ring(-1), NameWall.NONE);
        CHECK.due("P21 no CITY", new NameWall().ring(3), NameWall.NONE);
        // 3 needs 6, which 2 alone has; 2 needs 4, which 1 and 2 have.
        NameWall kinds = Check.city("sr3;n;nv4;nv6k1;nk3;ni1");
        CHECK.due("P21 0, 1, 2, 3", kinds.ring(15), 123);
        CHECK.due("P21 without 2", kinds.ring(11), NameWall.NONE);
        NameWall order = Check.city("sr3;nv6;n;nv4k1;nk3");
        CHECK.due("P21 who is loud goes ahead of whom", order.ring(11), 31);
        CHECK.due("P21 0, 3 but nobody for 2", order.ring(15), NameWall.NONE);
        kinds.hoarse(2);
        CHECK.due("P21 HOARSE", kinds.ring(15), NameWall.NONE);
        kinds.evening(1);
        CHECK.due("P21 GONE", kinds.ring(17), NameWall.NONE);
        NameWall once = Check.city("n;n", "y:3*s");
        CHECK.due("P21 s 1", once.ring(3), 1);
        once = Check.city("n;n", "y:4*s");
        once.shout(0, 1, 0);
        once.fog(true);
        CHECK.due("P21 s 1, whatever SHOUTS there are", once.ring(3), NameWall.NONE);
    }

    private static void prices() {
        NameWall wall = Check.city("sr5;n;nv2w1;nv3w1;nv5w3;nv9w9;tb4");
        CHECK.due("P22 the TIED one for nothing", wall.price(0, 0), 0);
        CHECK.due("P22 who", wall.price(0, 1), 16);
        wall.hoarse(4);
        CHECK.due("P22 2 and 3 for 2", wall.price(0, 0), 2);
        CHECK.due("P22 who", wall.price(0, 1), 6);
        CHECK.due("P22 0 and 2 for 2", wall.price(1, 0), 2);
        CHECK.due("P22 of several the least", wall.price(1, 1), 5);
        CHECK.due("P22 of 4: TIED and 1", wall.price(4, 1), 3);
        CHECK.due("P22 of 4", wall.price(4, 0), 1);
        CHECK.due("P22 no such what", wall.price(0, 2), NameWall.NONE);
        CHECK.due("P22 no such what", wall.price(0, -1), NameWall.NONE);
        CHECK.due("P22 no such one", wall.price(5, 0), NameWall.NONE);
        CHECK.due("P22 below", wall.price(-1, 0), NameWall.NONE);
        CHECK.due("P22 no CITY", new NameWall().price(0, 0), NameWall.NONE);
        NameWall hard = Check.city("sr9;nk3;nv6;nv6;ni1v9");
        CHECK.due("P22 12 by 6 and 6", hard.price(0, 1), 6);
        hard.evening(1);
        CHECK.due("P22 GONE", hard.price(3, 0), NameWall.NONE);
        hard.hoarse(1);
        CHECK.due("P22 all are not enough", hard.price(0, 0), NameWall.NONE);
        CHECK.due("P22 all are not enough", hard.price(0, 1), NameWall.NONE);
        NameWall free = Check.city("sr0;n;n");
        CHECK.due("P22 nothing to pay", free.price(0, 0), 0);
        CHECK.due("P22 nobody needed", free.price(0, 1), 0);
        NameWall now = Check.city("n;n;n", "y:3+3*s");
        CHECK.due("P22 LOSS as now", now.price(0, 1), 2);
        now.shout(1, 0, 0);
        CHECK.due("P22 LOSS as it would be now", now.price(0, 1), 6);
    }

    private static void packed() {
        CHECK.due("P23 no CITY", new NameWall().packed(), NameWall.NONE);
        NameWall wall = Check.city("sd3h1;nw0;nw0;nw0g1;nw0g1;nw0g2;nw0;nw0;nw0");
        CHECK.due("P23 no SHOUTS", wall.packed(), 0);
        wall.shout(0, 1, 0);
        CHECK.due("P23 one", wall.packed(), 1);
        wall.shout(1, 0, 0);
        wall.shout(2, 4, 0);
        CHECK.due("P23 three unlike ones", wall.packed(), 1);
        wall.fog(true);
        wall.shout(3, 2, 0);
        CHECK.due("P23 four by DROWN 3", wall.packed(), 2);
        wall.shout(4, 3, 0);
        wall.shout(5, 2, 0);
        CHECK.due("P23 three of LIKE ones, more than HOURS", wall.packed(), 3);
        wall.shout(6, 5, 0);
        wall.shout(7, 6, 0);
        CHECK.due("P23 eight by DROWN 3", wall.packed(), 3);
        NameWall same = Check.city("sd4;nw0;nw0;nw0;nw0");
        same.shout(0, 3, 0);
        same.shout(1, 3, 1);
        CHECK.due("P23 of one NAME twice", same.packed(), 2);
        NameWall narrow = Check.city("sd1;nw0;nw0;nw0");
        narrow.shout(0, 1, 0);
        narrow.shout(1, 2, 1);
        narrow.shout(2, 0, 2);
        CHECK.due("P23 DROWN 1", narrow.packed(), 3);
        narrow.evening(1);
        CHECK.due("P23 of today", narrow.packed(), 0);
    }

    private static void need() {
        NameWall wall = Check.city("sr4;nk2;ni1");
        CHECK.due("P34 LOSS", wall.need(0), 6);
        wall.fog(true);
        CHECK.due("P34 whatever the FOG", wall.need(1), 4);
        wall.evening(1);
        CHECK.due("P34 GONE", wall.need(1), NameWall.NONE);
        CHECK.due("P34 no such one", wall.need(2), NameWall.NONE);
        CHECK.due("P34 below", wall.need(-1), NameWall.NONE);
        CHECK.due("P34 no CITY", new NameWall().need(0), NameWall.NONE);
        CHECK.due("P34 s 1", Check.city("n;n", "y:7*s+p").need(0), 12);
        CHECK.due("P34 none needed", Check.city("n;n", "y:1-s").need(0), 0);
        CHECK.due("P34 the most", Check.city("n;n", "y:9999").need(0), 99);
    }
}
